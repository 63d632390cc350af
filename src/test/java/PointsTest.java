import java.util.ArrayList;
import java.util.List;
import java.util.Random;

/**
 * Small shapes against the points of a box, one by one. Rows have a small c, so a bound that is not endless is at most
 * FAR and is met inside the box, and an endless one passes FAR inside the box.
 */
public final class PointsTest {
  private static final long ENDLESS = LinearRows.ENDLESS;
  private static final int FAR = 20;

  private final int n;
  private final int edge;
  private final Random random;
  private final List<int[]> box = new ArrayList<>();
  private LinearRows rows;
  private List<List<int[]>> shapes;
  private final List<int[]> given = new ArrayList<>();
  private String told = "";

  private PointsTest(int n, int edge, long seed) {
    this.n = n;
    this.edge = edge;
    random = new Random(seed);
    fillBox(new int[n], 0);
  }

  public static void main(String[] args) {
    new PointsTest(1, 45, 1).go(300, 3);
    new PointsTest(2, 45, 2).go(800, 3);
    new PointsTest(3, 40, 3).go(30, 2);
    Checks.end();
  }

  private void fillBox(int[] p, int from) {
    if (from == n) {
      box.add(p.clone());
      return;
    }
    for (p[from] = -edge; p[from] <= edge; p[from]++) {
      fillBox(p, from + 1);
    }
  }

  private void go(int runs, int mostC) {
    for (int run = 0; run < runs && !Checks.anyWrong(); run++) {
      rows = new LinearRows(n);
      given.clear();
      shapes = new ArrayList<>();
      told = "points, n " + n + ", run " + run + ":";
      for (int s = 0; s < 2; s++) {
        shapes.add(fill(s, mostC));
        checkShape(s, shapes.get(s));
      }
      checkReads(0);
      checkReads(1);
      rows = again();
      checkPairs();
      rows = again();
      checkKeptOnly();
      rows = again();
      checkChanges();
    }
  }

  /** A new object with the same rows, as no object is good for more than 512 calls. */
  private LinearRows again() {
    LinearRows r = new LinearRows(n);
    for (int[] row : given) {
      r.row(row[0], row[1], row[2], row[3]);
    }
    return r;
  }

  private int term() {
    return random.nextInt(2 * n + 1) - n;
  }

  private int name() {
    return random.nextInt(n) + 1;
  }

  private static int value(int[] p, int term) {
    return term == 0 ? 0 : term > 0 ? p[term - 1] : -p[-term - 1];
  }

  private List<int[]> fill(int s, int mostC) {
    List<int[]> points = box;
    int count = 1 + random.nextInt(3 * n);
    for (int k = 0; k < count; k++) {
      int a = term();
      int b = term();
      int c = random.nextInt(2 * mostC + 1) - mostC + (random.nextInt(3) == 0 ? 0 : mostC / 2);
      c = Math.min(mostC, c);
      if (a == -b && random.nextInt(4) != 0) {
        continue;
      }
      points = below(points, a, b, c);
      given.add(new int[] {s, a, b, c});
      told += " row(" + s + ", " + a + ", " + b + ", " + c + ")";
      Checks.due(told, points.isEmpty() ? 0 : 1, rows.row(s, a, b, c));
    }
    return points;
  }

  private static List<int[]> below(List<int[]> points, int a, int b, long c) {
    List<int[]> left = new ArrayList<>();
    for (int[] p : points) {
      if (value(p, a) + value(p, b) <= c) {
        left.add(p);
      }
    }
    return left;
  }

  /** The bound over points, of which some may be missing outside the box. */
  private static long greatest(List<int[]> points, int a, int b) {
    long most = -ENDLESS;
    for (int[] p : points) {
      most = Math.max(most, value(p, a) + value(p, b));
    }
    return most > FAR ? ENDLESS : most;
  }

  private void checkShape(int s, List<int[]> points) {
    for (int a = -n; a <= n; a++) {
      for (int b = -n; b <= n; b++) {
        if (a == b && a != 0) {
          long one = greatest(points, a, 0);
          Checks.due(told + " bound(" + s + ", " + a + ", " + b + ")",
              Math.abs(one) == ENDLESS ? one : 2 * one, rows.bound(s, a, b));
        } else {
          Checks.due(told + " bound(" + s + ", " + a + ", " + b + ")", greatest(points, a, b), rows.bound(s, a, b));
        }
      }
    }
  }

  private void checkAllKept(int s) {
    for (int a = -n; a <= n; a++) {
      for (int b = -n; b <= n; b++) {
        long bound = rows.bound(s, a, b);
        boolean isRow = a != b && a != -b && bound != -ENDLESS;
        Checks.due(told + " kept(" + s + ", " + a + ", " + b + ")", isRow ? bound : ENDLESS, rows.kept(s, a, b));
      }
    }
  }

  private void checkReads(int s) {
    List<int[]> points = shapes.get(s);
    checkSample(s, points);
    checkHas(s);
    int bits = 1 + random.nextInt(5);
    int a = term();
    boolean fits = greatest(points, a, 0) < 1 << bits - 1 && greatest(points, -a, 0) <= 1 << bits - 1;
    Checks.due(told + " fits(" + s + ", " + a + ", " + bits + ")", fits, rows.fits(s, a, bits));
    if (n > 1) {
      checkArray(s, points);
    }
    if (n < 3) {
      checkNeeded(s, points);
    }
  }

  private void checkSample(int s, List<int[]> points) {
    Checks.due(told + " sample(" + s + ")", !points.isEmpty(), rows.sample(s));
    List<int[]> left = points;
    for (int k = 1; k <= n && !left.isEmpty(); k++) {
      long less = greatest(left, -k, 0);
      long most = greatest(left, k, 0);
      long v = less != ENDLESS ? -less : most != ENDLESS ? most : 0;
      Checks.due(told + " sample(" + s + ") point(" + k + ")", v, rows.point(k));
      left = below(below(left, k, 0, v), -k, 0, -v);
    }
  }

  private void checkHas(int s) {
    for (int time = 0; time < 20; time++) {
      int[] p = new int[n];
      for (int k = 1; k <= n; k++) {
        p[k - 1] = random.nextInt(9) - 4;
        rows.put(k, p[k - 1]);
      }
      boolean isIn = shapes.get(s).stream().anyMatch(q -> java.util.Arrays.equals(p, q));
      Checks.due(told + " has(" + s + ") " + java.util.Arrays.toString(p), isIn, rows.has(s));
    }
  }

  private void checkArray(int s, List<int[]> points) {
    int index = name();
    int length = index % n + 1;
    int inside = below(below(points, -index, 0, 0), index, -length, -1).size();
    long want = inside == points.size() ? 1 : inside == 0 ? -1 : 0;
    Checks.due(told + " array(" + s + ", " + index + ", " + length + ")", want, rows.array(s, index, length));
  }

  private int[] termsInOrder() {
    int[] terms = new int[2 * n];
    for (int k = 1; k <= n; k++) {
      terms[2 * k - 2] = k;
      terms[2 * k - 1] = -k;
    }
    return terms;
  }

  private List<long[]> rowsInOrder(List<int[]> points) {
    List<long[]> all = new ArrayList<>();
    for (int a : termsInOrder()) {
      all.add(new long[] {a, 0, greatest(points, a, 0)});
    }
    for (int a : termsInOrder()) {
      for (int b : termsInOrder()) {
        if (Math.abs(b) > Math.abs(a)) {
          all.add(new long[] {a, b, greatest(points, a, b)});
        }
      }
    }
    all.removeIf(r -> r[2] == ENDLESS);
    return all;
  }

  private void checkNeeded(int s, List<int[]> points) {
    List<long[]> left = new ArrayList<>();
    if (points.isEmpty()) {
      left.add(new long[] {0, 0, -1});
    } else {
      left = rowsInOrder(points);
      for (int k = left.size() - 1; k >= 0; k--) {
        long[] r = left.remove(k);
        List<int[]> others = box;
        for (long[] q : left) {
          others = below(others, (int) q[0], (int) q[1], q[2]);
        }
        if (greatest(others, (int) r[0], (int) r[1]) > r[2]) {
          left.add(k, r);
        }
      }
    }
    Checks.due(told + " needed(" + s + ")", left.size(), rows.needed(s));
    for (int k = 0; k < left.size() && !Checks.anyWrong(); k++) {
      for (int what = 0; what < 3; what++) {
        Checks.due(told + " needs(" + k + ", " + what + ")", left.get(k)[what], rows.needs(k, what));
      }
    }
  }

  private List<int[]> joined() {
    List<int[]> points = new ArrayList<>(shapes.get(0));
    points.addAll(shapes.get(1));
    if (points.isEmpty()) {
      return points;
    }
    List<int[]> hull = box;
    for (long[] r : rowsInOrder(points)) {
      hull = below(hull, (int) r[0], (int) r[1], r[2]);
    }
    return hull;
  }

  private void checkPairs() {
    List<int[]> both = new ArrayList<>(shapes.get(0));
    both.retainAll(new java.util.HashSet<>(shapes.get(1)));
    String before = told;
    told = before + " meet(2, 0, 1)";
    Checks.due(told, both.isEmpty() ? 0 : 1, rows.meet(2, 0, 1));
    checkShape(2, both);
    checkAllKept(2);
    told = before + " join(2, 0, 1)";
    List<int[]> hull = joined();
    Checks.due(told, hull.isEmpty() ? 0 : 1, rows.join(2, 0, 1));
    checkShape(2, hull);
    checkAllKept(2);
    Checks.due(before + " within(0, 1)", both.size() == shapes.get(0).size(), rows.within(0, 1));
    Checks.due(before + " within(1, 0)", both.size() == shapes.get(1).size(), rows.within(1, 0));
    told = before;
  }

  /** widen() and narrow() by their words, from what kept() and bound() tell of shapes 0 and 1. */
  private void checkKeptOnly() {
    if (shapes.get(0).isEmpty() || shapes.get(1).isEmpty()) {
      return;
    }
    List<int[]> widened = box;
    List<int[]> narrowed = box;
    for (int a = -n; a <= n; a++) {
      for (int b = a + 1; b <= n; b++) {
        if (a == -b) {
          continue;
        }
        long c = rows.kept(0, a, b);
        long other = greatest(shapes.get(1), a, b);
        if (c != ENDLESS && other <= c) {
          widened = below(widened, a, b, c);
        }
        narrowed = c == ENDLESS ? narrowed : below(narrowed, a, b, c);
        if (greatest(shapes.get(0), a, b) == ENDLESS && other != ENDLESS) {
          narrowed = below(narrowed, a, b, other);
        }
      }
    }
    String before = told;
    told = before + " widen(2, 0, 1)";
    Checks.due(told, 1, rows.widen(2, 0, 1));
    checkShape(2, widened);
    told = before + " narrow(2, 0, 1)";
    Checks.due(told, narrowed.isEmpty() ? 0 : 1, rows.narrow(2, 0, 1));
    checkShape(2, narrowed);
    told = before;
  }

  private void checkChanges() {
    int x = name();
    int a = term();
    int c = random.nextInt(5) - 2;
    String before = told;
    told = before + " set(0, " + x + ", " + a + ", " + c + ")";
    List<int[]> image = new ArrayList<>();
    for (int[] p : shapes.get(0)) {
      int[] q = p.clone();
      q[x - 1] = value(p, a) + c;
      image.add(q);
    }
    Checks.due(told, image.isEmpty() ? 0 : 1, rows.set(0, x, a, c));
    checkShape(0, image);
    checkAllKept(0);
    told = before + " forget(1, " + x + ")";
    List<int[]> freed = new ArrayList<>();
    for (int[] p : shapes.get(1)) {
      for (int v : new int[] {-edge, p[x - 1], edge}) {
        int[] q = p.clone();
        q[x - 1] = v;
        freed.add(q);
      }
    }
    Checks.due(told, freed.isEmpty() ? 0 : 1, rows.forget(1, x));
    checkShape(1, freed);
    checkAllKept(1);
  }
}
