import java.math.BigInteger;
import java.util.ArrayList;
import java.util.Arrays;
import java.util.List;
import java.util.Map;
import java.util.TreeMap;

/**
 * LinearRows again, slow and plain: a shape is a map from one or two terms to a c, and it is closed by adding up any
 * two rows, again and again, until no row gets less.
 */
final class Model {
  private static final BigInteger TWO = BigInteger.TWO;
  private static final BigInteger LIMIT = BigInteger.TEN.pow(15);
  private static final long GIVEN = 1000000000L;

  /** Rows by the factors (-1, 0, 1) of the names. */
  private static final class Shape {
    private Map<List<Integer>, BigInteger> kept = new TreeMap<>(Model::compare);
    private Map<List<Integer>, BigInteger> bounds = new TreeMap<>(Model::compare);
    private boolean empty = false;
  }

  private final int n;
  private final Shape[] shapes = new Shape[8];
  private final long[] point;
  private List<long[]> needed = new ArrayList<>();

  Model(int n) {
    this.n = n < 1 ? 1 : n > 5 ? 5 : n;
    point = new long[this.n];
    for (int s = 0; s < 8; s++) {
      shapes[s] = new Shape();
    }
  }

  private static int compare(List<Integer> a, List<Integer> b) {
    int k = 0;
    while (k < a.size() - 1 && a.get(k).equals(b.get(k))) {
      k++;
    }
    return a.get(k).compareTo(b.get(k));
  }

  // ---- rows

  private List<Integer> factors(int a, int b) {
    Integer[] f = new Integer[n];
    Arrays.fill(f, 0);
    for (int term : new int[] {a, b}) {
      if (term != 0) {
        f[Math.abs(term) - 1] += Integer.signum(term);
      }
    }
    return List.of(f);
  }

  private static List<Integer> sum(List<Integer> f, List<Integer> g) {
    Integer[] h = new Integer[f.size()];
    for (int k = 0; k < h.length; k++) {
      h[k] = f.get(k) + g.get(k);
    }
    return List.of(h);
  }

  private static int size(List<Integer> f) {
    int sum = 0;
    for (int k : f) {
      sum += Math.abs(k);
    }
    return sum;
  }

  private static boolean isTwice(List<Integer> f) {
    return size(f) == 2 && (f.contains(2) || f.contains(-2));
  }

  private static BigInteger floorHalf(BigInteger c) {
    return c.shiftRight(1);
  }

  /** Puts a row in if it says more than the one that is there: 1 if so, 0 if not, -1 if it can never hold. */
  private static int lower(Map<List<Integer>, BigInteger> rows, List<Integer> f, BigInteger c) {
    if (size(f) == 0) {
      return c.signum() < 0 ? -1 : 0;
    }
    if (size(f) > 2) {
      return 0;
    }
    if (isTwice(f)) {
      return lower(rows, f.stream().map(k -> k / 2).toList(), floorHalf(c));
    }
    BigInteger old = rows.get(f);
    if (old != null && old.compareTo(c) <= 0) {
      return 0;
    }
    rows.put(f, c);
    return 1;
  }

  /** The bounds that follow from rows, or null when there is no point. */
  private static Map<List<Integer>, BigInteger> closed(Map<List<Integer>, BigInteger> rows) {
    Map<List<Integer>, BigInteger> all = new TreeMap<>(Model::compare);
    all.putAll(rows);
    boolean changed = true;
    while (changed) {
      changed = false;
      List<List<Integer>> keys = new ArrayList<>(all.keySet());
      for (List<Integer> f : keys) {
        for (List<Integer> g : keys) {
          int got = lower(all, sum(f, g), all.get(f).add(all.get(g)));
          if (got < 0) {
            return null;
          }
          changed |= got > 0;
        }
      }
    }
    return all;
  }

  // ---- checks of arguments

  private void shapeCheck(int... all) {
    for (int s : all) {
      if (s < 0 || s > 7) {
        throw new IndexOutOfBoundsException();
      }
    }
  }

  private void nameCheck(int name) {
    if (name < 1 || name > n) {
      throw new IndexOutOfBoundsException();
    }
  }

  private void termCheck(int... all) {
    for (int t : all) {
      if (t < -n || t > n) {
        throw new IndexOutOfBoundsException();
      }
    }
  }

  private static void givenCheck(long c) {
    if (c < -GIVEN || c > GIVEN) {
      throw new IllegalArgumentException();
    }
  }

  // ---- shapes

  private static Shape emptyShape() {
    Shape shape = new Shape();
    shape.empty = true;
    return shape;
  }

  private static Shape ofKept(Map<List<Integer>, BigInteger> kept) {
    Map<List<Integer>, BigInteger> bounds = closed(kept);
    if (bounds == null) {
      return emptyShape();
    }
    Shape shape = new Shape();
    shape.kept.putAll(kept);
    shape.bounds = bounds;
    return shape;
  }

  private static Shape ofAllBounds(Map<List<Integer>, BigInteger> rows) {
    Map<List<Integer>, BigInteger> bounds = closed(rows);
    return bounds == null ? emptyShape() : ofKept(bounds);
  }

  private int land(int t, Shape shape) {
    for (BigInteger c : shape.bounds.values()) {
      if (c.abs().compareTo(LIMIT) > 0) {
        throw new ArithmeticException();
      }
    }
    shapes[t] = shape;
    return shape.empty ? 0 : 1;
  }

  private static Map<List<Integer>, BigInteger> copyOf(Map<List<Integer>, BigInteger> rows) {
    Map<List<Integer>, BigInteger> all = new TreeMap<>(Model::compare);
    all.putAll(rows);
    return all;
  }

  private Map<List<Integer>, BigInteger> without(Map<List<Integer>, BigInteger> rows, int x) {
    Map<List<Integer>, BigInteger> all = copyOf(rows);
    all.keySet().removeIf(f -> f.get(x - 1) != 0);
    return all;
  }

  private static long number(BigInteger c) {
    return c == null ? LinearRows.ENDLESS : c.longValueExact();
  }

  private BigInteger boundOf(Map<List<Integer>, BigInteger> bounds, int a, int b) {
    List<Integer> f = factors(a, b);
    if (size(f) == 0) {
      return BigInteger.ZERO;
    }
    if (isTwice(f)) {
      BigInteger c = bounds.get(factors(a, 0));
      return c == null ? null : c.multiply(TWO);
    }
    return bounds.get(f);
  }

  // ---- the face

  void all(int s) {
    shapeCheck(s);
    shapes[s] = new Shape();
  }

  int row(int s, int a, int b, long c) {
    shapeCheck(s);
    termCheck(a, b);
    givenCheck(c);
    if (shapes[s].empty) {
      return 0;
    }
    Map<List<Integer>, BigInteger> kept = copyOf(shapes[s].kept);
    boolean never = lower(kept, factors(a, b), BigInteger.valueOf(c)) < 0;
    return land(s, never ? emptyShape() : ofKept(kept));
  }

  long bound(int s, int a, int b) {
    shapeCheck(s);
    termCheck(a, b);
    return shapes[s].empty ? -LinearRows.ENDLESS : number(boundOf(shapes[s].bounds, a, b));
  }

  long kept(int s, int a, int b) {
    shapeCheck(s);
    termCheck(a, b);
    return number(shapes[s].kept.get(factors(a, b)));
  }

  int meet(int t, int s, int u) {
    shapeCheck(t, s, u);
    if (shapes[s].empty || shapes[u].empty) {
      return land(t, emptyShape());
    }
    Map<List<Integer>, BigInteger> both = copyOf(shapes[s].kept);
    shapes[u].kept.forEach((f, c) -> lower(both, f, c));
    return land(t, ofAllBounds(both));
  }

  int join(int t, int s, int u) {
    shapeCheck(t, s, u);
    if (shapes[s].empty || shapes[u].empty) {
      Shape other = shapes[s].empty ? shapes[u] : shapes[s];
      return land(t, other.empty ? emptyShape() : ofAllBounds(other.kept));
    }
    Map<List<Integer>, BigInteger> rows = new TreeMap<>(Model::compare);
    shapes[s].bounds.forEach((f, c) -> {
      if (shapes[u].bounds.containsKey(f)) {
        rows.put(f, c.max(shapes[u].bounds.get(f)));
      }
    });
    return land(t, ofAllBounds(rows));
  }

  int widen(int t, int s, int u) {
    shapeCheck(t, s, u);
    if (shapes[s].empty || shapes[u].empty) {
      return land(t, shapes[s].empty ? shapes[u] : shapes[s]);
    }
    Map<List<Integer>, BigInteger> rows = new TreeMap<>(Model::compare);
    shapes[s].kept.forEach((f, c) -> {
      BigInteger other = shapes[u].bounds.get(f);
      if (other != null && other.compareTo(c) <= 0) {
        rows.put(f, c);
      }
    });
    return land(t, ofKept(rows));
  }

  int narrow(int t, int s, int u) {
    shapeCheck(t, s, u);
    if (shapes[s].empty || shapes[u].empty) {
      return land(t, emptyShape());
    }
    Map<List<Integer>, BigInteger> rows = copyOf(shapes[s].kept);
    shapes[u].bounds.forEach((f, c) -> {
      if (!shapes[s].bounds.containsKey(f)) {
        rows.put(f, c);
      }
    });
    return land(t, ofKept(rows));
  }

  void copy(int t, int s) {
    shapeCheck(t, s);
    shapes[t] = shapes[s];
  }

  int set(int s, int x, int a, long c) {
    shapeCheck(s);
    nameCheck(x);
    termCheck(a);
    givenCheck(c);
    if (shapes[s].empty) {
      return 0;
    }
    BigInteger more = BigInteger.valueOf(c);
    if (Math.abs(a) == x) {
      return land(s, ofAllBounds(changed(shapes[s].bounds, x, a > 0 ? 1 : -1, more)));
    }
    Map<List<Integer>, BigInteger> rows = without(shapes[s].bounds, x);
    rows.put(factors(x, -a), more);
    rows.put(factors(-x, a), more.negate());
    return land(s, ofAllBounds(rows));
  }

  /** Rows in which x stands for sign * (x - more). */
  private Map<List<Integer>, BigInteger> changed(
      Map<List<Integer>, BigInteger> rows, int x, int sign, BigInteger more) {
    Map<List<Integer>, BigInteger> all = new TreeMap<>(Model::compare);
    rows.forEach((f, c) -> {
      List<Integer> g = new ArrayList<>(f);
      g.set(x - 1, sign * f.get(x - 1));
      all.put(List.copyOf(g), c.add(more.multiply(BigInteger.valueOf(g.get(x - 1)))));
    });
    return all;
  }

  int forget(int s, int x) {
    shapeCheck(s);
    nameCheck(x);
    return shapes[s].empty ? 0 : land(s, ofAllBounds(without(shapes[s].bounds, x)));
  }

  boolean within(int s, int u) {
    shapeCheck(s, u);
    if (shapes[s].empty || shapes[u].empty) {
      return shapes[s].empty;
    }
    for (Map.Entry<List<Integer>, BigInteger> row : shapes[u].kept.entrySet()) {
      BigInteger c = shapes[s].bounds.get(row.getKey());
      if (c == null || c.compareTo(row.getValue()) > 0) {
        return false;
      }
    }
    return true;
  }

  long put(int name, long v) {
    nameCheck(name);
    givenCheck(v);
    long before = point[name - 1];
    point[name - 1] = v;
    return before;
  }

  long point(int name) {
    nameCheck(name);
    return point[name - 1];
  }

  boolean has(int s) {
    shapeCheck(s);
    if (shapes[s].empty) {
      return false;
    }
    for (Map.Entry<List<Integer>, BigInteger> row : shapes[s].kept.entrySet()) {
      long sum = 0;
      for (int k = 0; k < n; k++) {
        sum += row.getKey().get(k) * point[k];
      }
      if (BigInteger.valueOf(sum).compareTo(row.getValue()) > 0) {
        return false;
      }
    }
    return true;
  }

  boolean sample(int s) {
    shapeCheck(s);
    if (shapes[s].empty) {
      return false;
    }
    Map<List<Integer>, BigInteger> rows = copyOf(shapes[s].kept);
    for (int k = 1; k <= n; k++) {
      Map<List<Integer>, BigInteger> bounds = closed(rows);
      BigInteger less = bounds.get(factors(-k, 0));
      BigInteger most = bounds.get(factors(k, 0));
      BigInteger v = less != null ? less.negate() : most != null ? most : BigInteger.ZERO;
      point[k - 1] = v.longValueExact();
      rows.put(factors(k, 0), v);
      rows.put(factors(-k, 0), v.negate());
    }
    return true;
  }

  private List<int[]> pairsInOrder() {
    List<Integer> terms = new ArrayList<>();
    for (int k = 1; k <= n; k++) {
      terms.add(k);
      terms.add(-k);
    }
    List<int[]> pairs = new ArrayList<>();
    terms.forEach(a -> pairs.add(new int[] {a, 0}));
    for (int a : terms) {
      for (int b : terms) {
        if (Math.abs(b) > Math.abs(a)) {
          pairs.add(new int[] {a, b});
        }
      }
    }
    return pairs;
  }

  int needed(int s) {
    shapeCheck(s);
    needed = new ArrayList<>();
    if (shapes[s].empty) {
      needed.add(new long[] {0, 0, -1});
      return 1;
    }
    List<int[]> pairs = pairsInOrder();
    Map<List<Integer>, BigInteger> left = copyOf(shapes[s].bounds);
    for (int k = pairs.size() - 1; k >= 0; k--) {
      List<Integer> f = factors(pairs.get(k)[0], pairs.get(k)[1]);
      BigInteger c = left.remove(f);
      if (c != null) {
        BigInteger still = closed(left).get(f);
        if (still == null || still.compareTo(c) > 0) {
          left.put(f, c);
        }
      }
    }
    for (int[] pair : pairs) {
      BigInteger c = left.get(factors(pair[0], pair[1]));
      if (c != null) {
        needed.add(new long[] {pair[0], pair[1], c.longValueExact()});
      }
    }
    return needed.size();
  }

  int neededCount() {
    return needed.size();
  }

  long needs(int k, int what) {
    if (k < 0 || k >= needed.size() || what < 0 || what > 2) {
      throw new IndexOutOfBoundsException();
    }
    return needed.get(k)[what];
  }

  boolean fits(int s, int a, int bits) {
    shapeCheck(s);
    termCheck(a);
    if (bits < 1 || bits > 62) {
      throw new IllegalArgumentException();
    }
    if (shapes[s].empty) {
      return true;
    }
    BigInteger most = boundOf(shapes[s].bounds, a, 0);
    BigInteger less = boundOf(shapes[s].bounds, -a, 0);
    BigInteger end = TWO.pow(bits - 1);
    return most != null && less != null && most.compareTo(end) < 0 && less.compareTo(end) <= 0;
  }

  int array(int s, int index, int length) {
    shapeCheck(s);
    nameCheck(index);
    nameCheck(length);
    if (index == length) {
      throw new IndexOutOfBoundsException();
    }
    if (shapes[s].empty) {
      return 1;
    }
    Map<List<Integer>, BigInteger> rows = copyOf(shapes[s].bounds);
    int below = lower(rows, factors(-index, 0), BigInteger.ZERO);
    int above = lower(rows, factors(index, -length), BigInteger.ONE.negate());
    if (below == 0 && above == 0) {
      return 1;
    }
    return closed(rows) == null ? -1 : 0;
  }

  int told(int what) {
    if (what < 0 || what > 9) {
      throw new IndexOutOfBoundsException();
    }
    if (what == 0) {
      return n;
    }
    if (what == 9) {
      return (int) Arrays.stream(shapes).filter(shape -> shape.empty).count();
    }
    return shapes[what - 1].kept.size();
  }
}
