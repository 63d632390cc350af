import java.util.ArrayList;
import java.util.List;

/** Each call that throws: which exception, which of several, and that nothing changes. */
public final class RefusedCallsTest {
  private interface Use {
    long on(LinearRows r);
  }

  private record Refused(String words, String name, Class<? extends RuntimeException> want, Use use) {
  }

  private static final long GIVEN = 1000000000L;
  private static final int NAMES = 3;
  private static final int FAR_APART = 0;
  private static final int FAR_SECOND = 1;
  private static final int NOT_CLOSED = 2;
  private static final int EMPTY = 3;
  private static final int ALL = 4;
  private static final int WIDE = 5;
  private static final int POINT = 6;
  private static final int SPARE = 7;
  private static final Class<IndexOutOfBoundsException> INDEX = IndexOutOfBoundsException.class;
  private static final Class<IllegalArgumentException> ARGUMENT = IllegalArgumentException.class;
  private static final Class<ArithmeticException> ARITHMETIC = ArithmeticException.class;
  private static final int[] NO_SHAPES = {-1, 8, Integer.MIN_VALUE, Integer.MAX_VALUE};
  private static final int[] NO_NAMES = {0, -1, NAMES + 1, -NAMES, Integer.MIN_VALUE, Integer.MAX_VALUE};
  private static final int[] NO_TERMS = {NAMES + 1, -NAMES - 1, Integer.MIN_VALUE, Integer.MAX_VALUE};
  private static final long[] NOT_GIVEN = {GIVEN + 1, -GIVEN - 1, Long.MAX_VALUE, Long.MIN_VALUE};

  private final List<Refused> refused = new ArrayList<>();
  private String words = "";

  public static void main(String[] args) {
    RefusedCallsTest test = new RefusedCallsTest();
    test.noSuchShape();
    test.noSuchName();
    test.noSuchTerm();
    test.noSuchPart();
    test.notGiven();
    test.tooFar();
    test.indexBeforeArgument();
    test.indexBeforeArithmetic();
    test.argumentBeforeArithmetic();
    test.goThrough();
    Checks.end();
  }

  private void add(String name, Class<? extends RuntimeException> want, Use use) {
    refused.add(new Refused(words, name, want, use));
  }

  /** The state before each refused call: shapes of each kind, a point, and rows that needed() told. */
  private static LinearRows state() {
    LinearRows r = new LinearRows(NAMES);
    Far.apart(r, FAR_APART, SPARE, Far.LIMIT / 2);
    r.copy(FAR_SECOND, FAR_APART);
    r.set(FAR_SECOND, 3, 2, 0);
    r.set(FAR_SECOND, 2, 1, 1);
    r.forget(FAR_SECOND, 1);
    r.row(FAR_SECOND, 3, 0, 0);
    r.forget(FAR_SECOND, 3);
    r.copy(WIDE, FAR_APART);
    r.row(WIDE, 2, 0, 0);
    r.forget(WIDE, 2);
    r.row(WIDE, 1, 2, 0);
    r.meet(WIDE, WIDE, FAR_SECOND);
    Far.twice(r, FAR_APART, SPARE);
    r.all(SPARE);
    r.row(NOT_CLOSED, 1, 0, 5);
    r.row(NOT_CLOSED, 2, 0, 5);
    r.row(NOT_CLOSED, -3, 2, 1);
    r.row(EMPTY, 0, 0, -1);
    r.set(POINT, 1, 0, 1);
    r.set(POINT, 2, 0, 0);
    r.row(SPARE, 1, -2, 9);
    r.put(1, 11);
    r.put(2, -12);
    r.put(3, 13);
    r.needed(NOT_CLOSED);
    return r;
  }

  private void noSuchShape() {
    words = "Terms: IndexOutOfBoundsException: there is no such SHAPE";
    for (int s : NO_SHAPES) {
      for (int t : new int[] {NOT_CLOSED, EMPTY, ALL}) {
        add("row", INDEX, r -> r.row(s, 1, 0, 0));
        add("copy", INDEX, r -> done(() -> r.copy(s, t)));
        add("copy", INDEX, r -> done(() -> r.copy(t, s)));
        add("within", INDEX, r -> r.within(s, t) ? 1 : 0);
        add("within", INDEX, r -> r.within(t, s) ? 1 : 0);
        addOfThree(s, t, t);
        addOfThree(t, s, t);
        addOfThree(t, t, s);
      }
      addOfThree(s, s, s);
      add("all", INDEX, r -> done(() -> r.all(s)));
      add("bound", INDEX, r -> r.bound(s, 1, 0));
      add("kept", INDEX, r -> r.kept(s, 1, 0));
      add("set", INDEX, r -> r.set(s, 1, 0, 0));
      add("forget", INDEX, r -> r.forget(s, 1));
      add("has", INDEX, r -> r.has(s) ? 1 : 0);
      add("sample", INDEX, r -> r.sample(s) ? 1 : 0);
      add("needed", INDEX, r -> r.needed(s));
      add("fits", INDEX, r -> r.fits(s, 1, 8) ? 1 : 0);
      add("array", INDEX, r -> r.array(s, 1, 2));
    }
  }

  private void addOfThree(int t, int s, int u) {
    add("meet", INDEX, r -> r.meet(t, s, u));
    add("join", INDEX, r -> r.join(t, s, u));
    add("widen", INDEX, r -> r.widen(t, s, u));
    add("narrow", INDEX, r -> r.narrow(t, s, u));
  }

  private static long done(Checks.Deed deed) {
    deed.go();
    return 0;
  }

  private void noSuchName() {
    words = "Terms: IndexOutOfBoundsException: there is no such NAME";
    for (int name : NO_NAMES) {
      for (int s : new int[] {NOT_CLOSED, EMPTY, ALL}) {
        add("set", INDEX, r -> r.set(s, name, 1, 0));
        add("forget", INDEX, r -> r.forget(s, name));
        add("array", INDEX, r -> r.array(s, name, 1));
        add("array", INDEX, r -> r.array(s, 1, name));
        add("array", INDEX, r -> r.array(s, name, name));
      }
      add("put", INDEX, r -> r.put(name, 0));
      add("point", INDEX, r -> r.point(name));
    }
    for (int s : new int[] {NOT_CLOSED, EMPTY, ALL}) {
      add("array of the same", INDEX, r -> r.array(s, NAMES, NAMES));
    }
  }

  private void noSuchTerm() {
    words = "Terms: IndexOutOfBoundsException: there is no such TERM";
    for (int term : NO_TERMS) {
      for (int s : new int[] {NOT_CLOSED, EMPTY, ALL}) {
        add("row", INDEX, r -> r.row(s, term, 1, 0));
        add("row", INDEX, r -> r.row(s, 1, term, 0));
        add("row", INDEX, r -> r.row(s, term, term, -1));
        add("row", INDEX, r -> r.row(s, term, -term, -1));
        add("bound", INDEX, r -> r.bound(s, term, 1));
        add("bound", INDEX, r -> r.bound(s, 0, term));
        add("bound", INDEX, r -> r.bound(s, term, -term));
        add("kept", INDEX, r -> r.kept(s, term, 1));
        add("kept", INDEX, r -> r.kept(s, 0, term));
        add("kept", INDEX, r -> r.kept(s, term, term));
        add("set", INDEX, r -> r.set(s, 1, term, 0));
        add("fits", INDEX, r -> r.fits(s, term, 8) ? 1 : 0);
      }
    }
  }

  private void noSuchPart() {
    words = "Promises 19, 22: IndexOutOfBoundsException: there is none such, or another what";
    for (int bad : new int[] {-1, 10, 11, Integer.MIN_VALUE, Integer.MAX_VALUE}) {
      add("told", INDEX, r -> r.told(bad));
      add("needs", INDEX, r -> r.needs(bad, 0));
      add("needs", INDEX, r -> r.needs(0, bad));
      add("needs", INDEX, r -> r.needs(bad, bad));
    }
    add("needs", INDEX, r -> r.needs(0, 3));
    add("needs", INDEX, r -> r.needs(3, 0));
  }

  private void notGiven() {
    words = "Promises 3, 11, 14, 20: IllegalArgumentException";
    for (long c : NOT_GIVEN) {
      for (int s : new int[] {NOT_CLOSED, EMPTY, ALL}) {
        add("row", ARGUMENT, r -> r.row(s, 1, 0, c));
        add("row of none", ARGUMENT, r -> r.row(s, 0, 0, c));
        add("row of opposites", ARGUMENT, r -> r.row(s, 1, -1, c));
        add("row of a term twice", ARGUMENT, r -> r.row(s, 1, 1, c));
        add("set", ARGUMENT, r -> r.set(s, 1, 2, c));
      }
      add("put", ARGUMENT, r -> r.put(1, c));
    }
    for (int bits : new int[] {0, 63, -1, Integer.MIN_VALUE, Integer.MAX_VALUE}) {
      for (int s : new int[] {NOT_CLOSED, EMPTY, ALL}) {
        add("fits", ARGUMENT, r -> r.fits(s, 1, bits) ? 1 : 0);
      }
    }
  }

  private void tooFar() {
    words = "Promises 3, 6, 8, 9, 11: ArithmeticException";
    add("row", ARITHMETIC, r -> r.row(FAR_APART, 2, 0, 1));
    add("row", ARITHMETIC, r -> r.row(FAR_APART, 2, 3, 1));
    add("row of a term twice", ARITHMETIC, r -> r.row(FAR_APART, 2, 2, 2));
    add("set", ARITHMETIC, r -> r.set(FAR_APART, 1, 1, 1));
    add("set", ARITHMETIC, r -> r.set(FAR_APART, 2, 2, -1));
    add("set", ARITHMETIC, r -> r.set(FAR_APART, 3, 1, 1));
    for (int t = 0; t < 8; t++) {
      int to = t;
      add("meet", ARITHMETIC, r -> r.meet(to, FAR_APART, FAR_SECOND));
      add("meet", ARITHMETIC, r -> r.meet(to, NOT_CLOSED, FAR_APART));
      add("narrow", ARITHMETIC, r -> r.narrow(to, FAR_APART, FAR_SECOND));
      add("narrow", ARITHMETIC, r -> r.narrow(to, FAR_APART, NOT_CLOSED));
      add("widen", ARITHMETIC, r -> r.widen(to, WIDE, POINT));
    }
  }

  private void indexBeforeArgument() {
    words = "Terms: The one named first when several would do";
    for (long c : NOT_GIVEN) {
      add("row, shape and c", INDEX, r -> r.row(8, 1, 0, c));
      add("row, first term and c", INDEX, r -> r.row(NOT_CLOSED, 4, 0, c));
      add("row, second term and c", INDEX, r -> r.row(EMPTY, 0, -4, c));
      add("set, shape and c", INDEX, r -> r.set(-1, 1, 0, c));
      add("set, name and c", INDEX, r -> r.set(NOT_CLOSED, 0, 0, c));
      add("set, term and c", INDEX, r -> r.set(EMPTY, 1, 4, c));
      add("put, name and v", INDEX, r -> r.put(0, c));
      add("put, name and v", INDEX, r -> r.put(4, c));
    }
    add("fits, shape and bits", INDEX, r -> r.fits(8, 1, 0) ? 1 : 0);
    add("fits, term and bits", INDEX, r -> r.fits(EMPTY, 4, 63) ? 1 : 0);
  }

  private void indexBeforeArithmetic() {
    words = "Terms: The one named first when several would do";
    add("row", INDEX, r -> r.row(FAR_APART, 2, 4, 1));
    add("set", INDEX, r -> r.set(FAR_APART, 1, 4, 1));
    add("set", INDEX, r -> r.set(FAR_APART, -1, 1, 1));
    for (int t : NO_SHAPES) {
      add("meet", INDEX, r -> r.meet(t, FAR_APART, FAR_SECOND));
      add("narrow", INDEX, r -> r.narrow(t, FAR_APART, FAR_SECOND));
      add("widen", INDEX, r -> r.widen(t, WIDE, POINT));
    }
  }

  private void argumentBeforeArithmetic() {
    words = "Terms: The one named first when several would do";
    for (long c : NOT_GIVEN) {
      add("row", ARGUMENT, r -> r.row(FAR_APART, 2, 0, c));
      add("set", ARGUMENT, r -> r.set(FAR_APART, 1, 1, c));
      add("set", ARGUMENT, r -> r.set(FAR_APART, 2, 2, c));
    }
  }

  /** An object is good for 512 calls alone, so each part of its state is read from an object of its own. */
  private void goThrough() {
    List<String> want = new ArrayList<>();
    for (int part = 0; part <= 8; part++) {
      want.add(read(state(), part));
    }
    for (Refused call : refused) {
      Checks.of(call.words);
      Checks.dueThrow(call.name, call.want, () -> call.use.on(state()));
      Checks.of("Terms: A call that throws changes nothing");
      for (int part = 0; part <= 8; part++) {
        LinearRows r = state();
        Checks.dueThrow(call.name, call.want, () -> call.use.on(r));
        String got = read(r, part);
        if (!got.equals(want.get(part))) {
          Checks.report(call.name + " left " + got + ", before it was " + want.get(part));
        }
      }
    }
  }

  private static String read(LinearRows r, int part) {
    return part < 8 ? readShape(r, part) : readRest(r);
  }

  private static String readShape(LinearRows r, int s) {
    StringBuilder text = new StringBuilder("shape " + s + ":");
    for (int a = -NAMES; a <= NAMES; a++) {
      for (int b = a; b <= NAMES; b++) {
        text.append(' ').append(r.bound(s, a, b)).append('/').append(r.kept(s, a, b));
      }
    }
    return text.toString();
  }

  private static String readRest(LinearRows r) {
    StringBuilder text = new StringBuilder("told:");
    for (int what = 0; what <= 9; what++) {
      text.append(' ').append(r.told(what));
    }
    text.append(" point:");
    for (int name = 1; name <= NAMES; name++) {
      text.append(' ').append(r.point(name));
    }
    text.append(" needs:");
    for (int k = 0; k < 4; k++) {
      for (int what = 0; what < 3; what++) {
        int row = k;
        int part = what;
        text.append(' ').append(Checks.told(() -> r.needs(row, part)));
      }
    }
    return text.toString();
  }
}
