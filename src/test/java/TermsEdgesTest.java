/** Each sentence of "What it is" and "Terms" that names a boundary case, by a test of its own; limits: LimitsTest. */
public final class TermsEdgesTest {
  private static final long ENDLESS = LinearRows.ENDLESS;
  private static final long GIVEN = 1000000000L;
  private static final Class<IndexOutOfBoundsException> INDEX = IndexOutOfBoundsException.class;

  public static void main(String[] args) {
    Checks.each(
        TermsEdgesTest::names,
        TermsEdgesTest::terms,
        TermsEdgesTest::wholeNumbersOfAnySize,
        TermsEdgesTest::rowIsAtMost,
        TermsEdgesTest::shapesAtFirstAllPoints,
        TermsEdgesTest::emptyHasNoPoint,
        TermsEdgesTest::emptyByARing,
        TermsEdgesTest::boundIsMetByAPoint,
        TermsEdgesTest::boundIsEndless,
        TermsEdgesTest::keptRowWithTheLeastC,
        TermsEdgesTest::keptRowsInNoOrder,
        TermsEdgesTest::keptRowsInFull,
        TermsEdgesTest::keptRowOfATermTwice,
        TermsEdgesTest::oppositesAndNoneAreNotKept,
        TermsEdgesTest::oppositesAndNoneBelowZeroMakeEmpty,
        TermsEdgesTest::meetKeepsAllBounds,
        TermsEdgesTest::joinKeepsAllBounds,
        TermsEdgesTest::setKeepsAllBounds,
        TermsEdgesTest::forgetKeepsAllBounds,
        TermsEdgesTest::copyKeepsThoseOfTheOther,
        TermsEdgesTest::emptyHasNoKeptRows,
        TermsEdgesTest::joinHasWhatEachRowAllows,
        TermsEdgesTest::widenedLeavesRowsThatHold,
        TermsEdgesTest::widenedOfEmpty,
        TermsEdgesTest::widenedByEmpty,
        TermsEdgesTest::narrowedFillsEndlessBounds,
        TermsEdgesTest::narrowedOfEmpty,
        TermsEdgesTest::narrowedByEmpty,
        TermsEdgesTest::neededRowsInOrder,
        TermsEdgesTest::neededRowsLeaveOutFromTheLast,
        TermsEdgesTest::neededRowOfEmpty,
        TermsEdgesTest::pointAtFirst,
        TermsEdgesTest::noSuchShapeNameTerm);
  }

  static void makeEmpty(LinearRows r, int s) {
    r.row(s, 0, 0, -1);
  }

  static void exactly(LinearRows r, int s, int name, long v) {
    r.row(s, name, 0, v);
    r.row(s, -name, 0, -v);
  }

  /** A new object of n names, shape 0 with each term at most one and each two together at most two: 2 * n * n rows. */
  static LinearRows full(int n, long one, long two) {
    LinearRows r = new LinearRows(n);
    for (int a = -n; a <= n; a++) {
      if (a != 0) {
        r.row(0, a, 0, one);
      }
      for (int b = Math.abs(a) + 1; a != 0 && b <= n; b++) {
        r.row(0, a, b, two);
        r.row(0, a, -b, two);
      }
    }
    return r;
  }

  private static void names() {
    Checks.of("Terms: There are n NAMES, 1 .. n");
    for (int n = 1; n <= 5; n++) {
      LinearRows r = new LinearRows(n);
      int beyond = n + 1;
      Checks.due("first name of " + n, 0, r.put(1, 3));
      Checks.due("last name of " + n, n == 1 ? 3 : 0, r.put(n, 4));
      Checks.due("last name of " + n, 4, r.point(n));
      Checks.dueThrow("name 0 of " + n, INDEX, () -> r.point(0));
      Checks.dueThrow("name n + 1 of " + n, INDEX, () -> r.point(beyond));
      Checks.dueThrow("name -1 of " + n, INDEX, () -> r.point(-1));
    }
  }

  private static void terms() {
    Checks.of("Terms: k is NAME k, -k is less NAME k, 0 is nothing (0)");
    for (int n = 1; n <= 5; n++) {
      LinearRows r = new LinearRows(n);
      int last = n;
      r.row(0, n, 0, 5);
      r.row(0, 0, -n, -2);
      Checks.due("the last name, nothing", 5, r.bound(0, n, 0));
      Checks.due("nothing, less the last name", -2, r.bound(0, 0, -n));
      Checks.due("nothing", 0, r.bound(0, 0, 0));
      Checks.due("nothing is 0", true, r.fits(0, 0, 1));
      Checks.due("nothing and 3", 1, r.set(1, 1, 0, 3));
      Checks.due("nothing and 3", 3, r.bound(1, 1, 0));
      Checks.due("less nothing and 3", -3, r.bound(1, -1, 0));
      Checks.dueThrow("term n + 1", INDEX, () -> r.bound(0, last + 1, 0));
      Checks.dueThrow("term -(n + 1)", INDEX, () -> r.bound(0, 0, -last - 1));
    }
  }

  private static void wholeNumbersOfAnySize() {
    Checks.of("Terms: A POINT has a whole number, of any size, for each NAME");
    LinearRows r = new LinearRows(3);
    Checks.due("no size is the last one", ENDLESS, r.bound(0, -3, 0));
    Checks.due("not in 62 bits", false, r.fits(0, 1, 62));
    Far.atMost(r, 0, 7, -1, Far.LIMIT);
    Far.atMost(r, 1, 7, -1, -2, -Far.LIMIT);
    Checks.due("each bound is within the limit", 1, r.meet(2, 0, 1));
    Checks.due("a point with a number beyond it", true, r.sample(2));
    Checks.due("name 1", -Far.LIMIT, r.point(1));
    Checks.due("name 2", 2 * Far.LIMIT, r.point(2));
    Checks.due("is in", true, r.has(2));
    Checks.due("answers what it was", 2 * Far.LIMIT, r.put(2, GIVEN));
    Checks.due("is in no more", false, r.has(2));
    r.all(3);
    r.row(3, 1, 2, 1);
    r.row(3, -1, -2, -1);
    r.row(3, 1, -2, 0);
    Checks.due("no half of 1 is a whole number", 0, r.row(3, 2, -1, 0));
  }

  private static void rowIsAtMost() {
    Checks.of("Terms: A ROW: TERM a and TERM b together are at most c");
    for (long c : new long[] {-GIVEN, -1, 0, 1, GIVEN - 1}) {
      LinearRows r = new LinearRows(2);
      r.row(0, 1, 0, c);
      r.row(1, -2, 0, -c);
      r.put(1, c);
      r.put(2, c);
      Checks.due("1 is " + c, true, r.has(0));
      Checks.due("less 2 is " + -c, true, r.has(1));
      r.put(1, c + 1);
      Checks.due("1 is above " + c, false, r.has(0));
      r.row(2, 1, -2, 1);
      Checks.due("apart by 1", true, r.has(2));
      r.row(3, 1, -2, 0);
      Checks.due("not apart by 0", false, r.has(3));
    }
  }

  private static void shapesAtFirstAllPoints() {
    Checks.of("Terms: SHAPES 0 .. 7 are sets of POINTS: those for which all of some ROWS hold; at first all POINTS");
    for (int s = 0; s < 8; s++) {
      LinearRows r = new LinearRows(5);
      for (int a = -5; a <= 5; a++) {
        for (int b = a; b <= 5; b++) {
          Checks.due("bound(" + s + ", " + a + ", " + b + ")", a == -b ? 0 : ENDLESS, r.bound(s, a, b));
        }
      }
      r.put(1, GIVEN);
      r.put(5, -GIVEN);
      Checks.due("a far point is in " + s, true, r.has(s));
      Checks.due("no kept rows in " + s, 0, r.told(1 + s));
    }
    LinearRows r = new LinearRows(2);
    Checks.due("the last one takes a row", 1, r.row(7, 1, 0, 2));
    Checks.due("the first one takes a row", 1, r.row(0, 1, 0, 3));
    Checks.due("the last one", 2, r.bound(7, 1, 0));
    Checks.due("the first one", 3, r.bound(0, 1, 0));
    Checks.dueThrow("shape 8", INDEX, () -> r.all(8));
    Checks.dueThrow("shape -1", INDEX, () -> r.all(-1));
  }

  private static void emptyHasNoPoint() {
    Checks.of("Terms: EMPTY: there is none");
    LinearRows r = new LinearRows(3);
    r.row(0, 1, 0, 4);
    Checks.due("one point is left of name 1", 1, r.row(0, -1, 0, -4));
    Checks.due("not empty", 0, r.told(9));
    Checks.due("its last point is gone", 0, r.row(0, -1, 0, -5));
    Checks.due("empty", 1, r.told(9));
    r.row(1, 1, -2, 0);
    r.row(1, 2, -3, 0);
    Checks.due("a ring of 0", 1, r.row(1, 3, -1, 0));
    Checks.due("a ring below 0", 0, r.row(1, 3, -1, -1));
    r.row(2, 1, 2, 0);
    r.row(2, 1, -2, 1);
    Checks.due("name 1 is 0 and name 2 is 0 or -1", 1, r.row(2, -1, 0, 0));
    r.row(2, -1, -2, 0);
    Checks.due("both are 0", 0, r.bound(2, 1, -2));
    r.row(3, 1, 2, 1);
    r.row(3, -1, -2, -1);
    r.row(3, 1, -3, 0);
    r.row(3, -1, 3, 0);
    r.row(3, 2, -3, 0);
    Checks.due("1, 2, 3 are the same, and two of them 1", 0, r.row(3, -2, 3, 0));
    Checks.due("empty", 3, r.told(9));
  }

  private static void emptyByARing() {
    Checks.of("Terms: EMPTY: there is none (rows in a ring that are together below 0)");
    for (int n = 2; n <= 5; n++) {
      for (int last = 1; last <= n; last++) {
        LinearRows r = new LinearRows(n);
        long together = 0;
        for (int k = 0; k < n - 1; k++) {
          int name = (last + k) % n + 1;
          long c = k % 2 == 0 ? 7 : -9;
          r.row(0, name, -(name % n + 1), c);
          together += c;
        }
        int next = last % n + 1;
        Checks.due("together 0", 1, r.row(0, last, -next, -together));
        Checks.due("the ring backwards", together, r.bound(0, next, -last));
        Checks.due("together -1", 0, r.row(0, last, -next, -together - 1));
      }
    }
  }

  private static void boundIsMetByAPoint() {
    Checks.of("Terms: The BOUND of TERMS a, b over a SHAPE is the greatest that they are together at one of its POINTS");
    LinearRows r = new LinearRows(3);
    r.row(0, 1, 2, 1);
    r.row(0, 1, -2, 0);
    r.row(0, 3, 2, 1);
    r.row(0, 3, -2, 0);
    Checks.due("half of 1, cut", 0, r.bound(0, 1, 0));
    Checks.due("two halves, each cut", 0, r.bound(0, 1, 3));
    Checks.due("twice, of a whole number", 0, r.bound(0, 1, 1));
    r.row(1, 1, 2, -1);
    r.row(1, 1, -2, 0);
    Checks.due("half of -1, cut", -1, r.bound(1, 1, 0));
    Checks.due("twice", -2, r.bound(1, 1, 1));
    Checks.due("opposite terms", 0, r.bound(1, 1, -1));
    Checks.due("nothing", 0, r.bound(1, 0, 0));
    r.row(2, 1, 0, GIVEN);
    r.row(2, 2, 0, GIVEN);
    Checks.due("two far ones", 2 * GIVEN, r.bound(2, 1, 2));
    r.row(2, 3, -1, GIVEN);
    Checks.due("twice a far one", 4 * GIVEN, r.bound(2, 3, 3));
  }

  private static void boundIsEndless() {
    Checks.of("Terms: ENDLESS when there is none such");
    LinearRows r = new LinearRows(3);
    r.row(0, 1, 0, 5);
    r.row(0, 2, -3, 0);
    Checks.due("the other side", ENDLESS, r.bound(0, -1, 0));
    Checks.due("the other side twice", ENDLESS, r.bound(0, -1, -1));
    Checks.due("one alone of two", ENDLESS, r.bound(0, 2, 0));
    Checks.due("two together", 0, r.bound(0, -3, 2));
    Checks.due("turned", ENDLESS, r.bound(0, 3, -2));
    Checks.due("with one that is bound", ENDLESS, r.bound(0, 1, 2));
    Checks.due("less ENDLESS is not told", ENDLESS, r.bound(0, -3, -2));
  }

  private static void keptRowWithTheLeastC() {
    Checks.of("Terms: KEPT ROWS: for each one or two TERMS one with the least c, or none");
    LinearRows r = new LinearRows(2);
    r.row(0, 1, 0, 5);
    r.row(0, 1, -2, 5);
    Checks.due("none", ENDLESS, r.kept(0, 2, 0));
    r.row(0, 1, 0, 6);
    r.row(0, 1, -2, 6);
    Checks.due("not a greater one", 5, r.kept(0, 1, 0));
    Checks.due("not a greater one", 5, r.kept(0, 1, -2));
    r.row(0, 1, 0, 5);
    Checks.due("the same once more", 2, r.told(1));
    r.row(0, 1, 0, 4);
    r.row(0, 1, -2, -4);
    Checks.due("a lesser one", 4, r.kept(0, 1, 0));
    Checks.due("a lesser one", -4, r.kept(0, 1, -2));
    Checks.due("one for each", 2, r.told(1));
    r.row(0, -2, 0, -9);
    r.row(0, 1, -2, -5);
    Checks.due("the row, though its bound is less", -5, r.kept(0, 1, -2));
    Checks.due("its bound", -5, r.bound(0, 1, -2));
    r.row(0, -2, 0, -20);
    Checks.due("its bound", -16, r.bound(0, 1, -2));
    Checks.due("the row stays", -5, r.kept(0, 1, -2));
  }

  private static void keptRowsInNoOrder() {
    Checks.of("Terms: KEPT ROWS: of different NAMES; in no order");
    LinearRows r = new LinearRows(3);
    r.row(0, 3, -1, 7);
    r.row(0, 0, 2, 9);
    Checks.due("as told", 7, r.kept(0, 3, -1));
    Checks.due("turned", 7, r.kept(0, -1, 3));
    Checks.due("nothing first", 9, r.kept(0, 0, 2));
    Checks.due("nothing second", 9, r.kept(0, 2, 0));
    r.row(0, -1, 3, 6);
    r.row(0, 2, 0, 8);
    Checks.due("the same row in another order", 2, r.told(1));
    Checks.due("the lesser one", 6, r.kept(0, 3, -1));
    Checks.due("the lesser one", 8, r.kept(0, 0, 2));
    Checks.due("opposite terms are others", ENDLESS, r.kept(0, -3, 1));
  }

  private static void keptRowsInFull() {
    Checks.of("Terms: KEPT ROWS: for each one or two TERMS one: all there can be");
    for (int n = 1; n <= 5; n++) {
      LinearRows r = full(n, 10, 19);
      Checks.due("all rows of " + n + " names", 2 * n * n, r.told(1));
      Checks.due("the last one", n == 1 ? 10 : 19, r.kept(0, -n, n == 1 ? 0 : 1 - n));
      Checks.due("one more of the same terms", 1, r.row(0, n, 0, 9));
      Checks.due("no more than all", 2 * n * n, r.told(1));
      Checks.due("all of them are met", 1, r.meet(1, 0, 0));
      Checks.due("all of them", 2 * n * n, r.told(2));
    }
  }

  private static void keptRowOfATermTwice() {
    Checks.of("Terms: a ROW with the same TERM twice as the TERM alone with c / 2, cut downwards");
    long[] given = {GIVEN, GIVEN - 1, 3, 2, 1, 0, -1, -2, -3, 1 - GIVEN, -GIVEN};
    long[] want = {500000000, 499999999, 1, 1, 0, 0, -1, -1, -2, -500000000, -500000000};
    for (int i = 0; i < given.length; i++) {
      LinearRows r = new LinearRows(2);
      r.row(0, 2, 2, given[i]);
      r.row(1, -1, -1, given[i]);
      Checks.due("2 twice, " + given[i], want[i], r.kept(0, 2, 0));
      Checks.due("less 1 twice, " + given[i], want[i], r.kept(1, 0, -1));
      Checks.due("not of the term twice", ENDLESS, r.kept(0, 2, 2));
      Checks.due("its bound", want[i], r.bound(0, 2, 0));
      Checks.due("its bound twice", 2 * want[i], r.bound(0, 2, 2));
      Checks.due("one row", 1, r.told(1));
      r.row(0, 2, 0, want[i] == given[i] ? want[i] : want[i] + 1);
      Checks.due("the least of both", want[i], r.kept(0, 2, 0));
    }
    LinearRows r = new LinearRows(1);
    r.row(0, 1, 1, 1);
    Checks.due("twice at most 1 and at least 1: none", 0, r.row(0, -1, -1, -1));
  }

  private static void oppositesAndNoneAreNotKept() {
    Checks.of("Terms: one of a TERM and its opposite, or of none, is not KEPT");
    for (long c : new long[] {0, 1, GIVEN}) {
      LinearRows r = new LinearRows(2);
      Checks.due("1 and -1, " + c, 1, r.row(0, 1, -1, c));
      Checks.due("-2 and 2, " + c, 1, r.row(0, -2, 2, c));
      Checks.due("none, " + c, 1, r.row(0, 0, 0, c));
      Checks.due("no kept rows", 0, r.told(1));
      Checks.due("not 1 and -1", ENDLESS, r.kept(0, 1, -1));
      Checks.due("not none", ENDLESS, r.kept(0, 0, 0));
      Checks.due("still all points", true, r.within(1, 0));
    }
  }

  private static void oppositesAndNoneBelowZeroMakeEmpty() {
    Checks.of("Terms: it makes the SHAPE EMPTY if c is below 0");
    for (long c : new long[] {-1, -2, -GIVEN}) {
      LinearRows r = new LinearRows(2);
      Checks.due("1 and -1, " + c, 0, r.row(0, 1, -1, c));
      Checks.due("-2 and 2, " + c, 0, r.row(1, -2, 2, c));
      Checks.due("none, " + c, 0, r.row(2, 0, 0, c));
      Checks.due("three are empty", 3, r.told(9));
    }
    LinearRows r = new LinearRows(2);
    Checks.due("1 and -1, 0", 1, r.row(0, 1, -1, 0));
    Checks.due("none, 0", 1, r.row(0, 0, 0, 0));
    Checks.due("none is empty", 0, r.told(9));
  }

  /** Shape 0: name 1 and name 2 at most 5, by rows: 2 kept rows, 3 bounds that are not endless. */
  private static LinearRows notClosed() {
    LinearRows r = new LinearRows(3);
    r.row(0, 1, 0, 5);
    r.row(0, 2, 0, 5);
    Checks.due("by rows", 2, r.told(1));
    return r;
  }

  private static void meetKeepsAllBounds() {
    Checks.of("Terms: meet() leaves as KEPT ROWS all with BOUNDS that are not ENDLESS");
    LinearRows r = notClosed();
    r.meet(1, 0, 7);
    Checks.due("with all points", 3, r.told(2));
    Checks.due("what follows is kept", 10, r.kept(1, 1, 2));
    Checks.due("no endless one", ENDLESS, r.kept(1, -1, 0));
    Checks.due("the others keep theirs", 2, r.told(1));
    r.meet(2, 7, 7);
    Checks.due("of all points", 0, r.told(3));
    r.row(3, 3, -1, 1);
    r.meet(4, 0, 3);
    Checks.due("what follows from both", 6, r.kept(4, 3, 0));
    Checks.due("what follows from both", 11, r.kept(4, 2, 3));
    Checks.due("all", 7, r.told(5));
    exactly(r, 5, 1, 1);
    exactly(r, 5, 2, 1);
    exactly(r, 5, 3, 1);
    r.meet(5, 5, 5);
    Checks.due("of one point", 18, r.told(6));
  }

  private static void joinKeepsAllBounds() {
    Checks.of("Terms: join() leaves as KEPT ROWS all with BOUNDS that are not ENDLESS");
    LinearRows r = notClosed();
    r.join(1, 0, 0);
    Checks.due("with itself", 3, r.told(2));
    Checks.due("what follows is kept", 10, r.kept(1, 2, 1));
    r.join(2, 0, 7);
    Checks.due("with all points", 0, r.told(3));
    makeEmpty(r, 6);
    r.join(3, 0, 6);
    Checks.due("with an empty one", 3, r.told(4));
    r.join(4, 6, 0);
    Checks.due("of an empty one", 3, r.told(5));
    r.row(5, 1, 2, 30);
    r.join(5, 0, 5);
    Checks.due("the one bound in both", 1, r.told(6));
    Checks.due("the greater one", 30, r.kept(5, 1, 2));
  }

  private static void setKeepsAllBounds() {
    Checks.of("Terms: set() leaves as KEPT ROWS all with BOUNDS that are not ENDLESS");
    LinearRows r = notClosed();
    r.set(0, 1, 1, 0);
    Checks.due("to itself", 3, r.told(1));
    Checks.due("what follows is kept", 10, r.kept(0, 1, 2));
    r.set(1, 1, 2, 3);
    Checks.due("from all points", 2, r.told(2));
    Checks.due("1 less 2", 3, r.kept(1, 1, -2));
    Checks.due("2 less 1", -3, r.kept(1, 2, -1));
    r.set(2, 1, 1, 3);
    Checks.due("all points stay all points", 0, r.told(3));
    for (int name = 1; name <= 3; name++) {
      r.set(3, name, 0, 4);
    }
    Checks.due("one point", 18, r.told(4));
  }

  private static void forgetKeepsAllBounds() {
    Checks.of("Terms: forget() leaves as KEPT ROWS all with BOUNDS that are not ENDLESS");
    LinearRows r = notClosed();
    r.forget(0, 3);
    Checks.due("a name without rows", 3, r.told(1));
    Checks.due("what follows is kept", 10, r.kept(0, 1, 2));
    r.forget(0, 2);
    Checks.due("one is left", 1, r.told(1));
    r.forget(0, 1);
    Checks.due("none is left", 0, r.told(1));
    r.forget(0, 1);
    Checks.due("of all points", 0, r.told(1));
    Checks.due("the name less itself is still 0", 0, r.bound(0, 1, -1));
  }

  private static void copyKeepsThoseOfTheOther() {
    Checks.of("Terms: copy() those of the other one");
    LinearRows r = notClosed();
    r.row(1, 3, 0, 1);
    r.row(1, -3, 1, 1);
    r.row(1, 2, 0, 1);
    r.copy(1, 0);
    Checks.due("two, as by rows", 2, r.told(2));
    Checks.due("not what follows", ENDLESS, r.kept(1, 1, 2));
    Checks.due("none of its own", ENDLESS, r.kept(1, 3, 0));
    r.copy(1, 7);
    Checks.due("of all points", 0, r.told(2));
    r.copy(0, 0);
    Checks.due("of itself", 2, r.told(1));
  }

  private static void emptyHasNoKeptRows() {
    Checks.of("Terms: A SHAPE that is EMPTY has none");
    LinearRows r = new LinearRows(2);
    r.row(0, 1, 0, 1);
    r.row(0, 2, 0, 1);
    r.row(0, 1, 0, 0);
    for (int s = 1; s < 8; s++) {
      r.copy(s, 0);
    }
    r.row(1, -1, 0, -1);
    Checks.due("by rows that contradict", 0, r.told(2));
    Checks.due("kept() of it", ENDLESS, r.kept(1, 2, 0));
    r.row(2, 2, -2, -1);
    Checks.due("by opposite terms", 0, r.told(3));
    r.row(2, 2, 0, -7);
    Checks.due("a row comes too late", 0, r.told(3));
    Checks.due("a row comes too late", ENDLESS, r.kept(2, 2, 0));
    r.row(2, 1, -2, 5);
    r.row(2, 1, 1, 5);
    Checks.due("rows of two terms, and of one twice, come too late", 0, r.told(3));
    r.meet(3, 3, 1);
    Checks.due("by meet", 0, r.told(4));
    r.join(4, 1, 2);
    Checks.due("by join", 0, r.told(5));
    r.widen(5, 1, 2);
    Checks.due("by widen", 0, r.told(6));
    r.narrow(6, 0, 2);
    Checks.due("by narrow", 0, r.told(7));
    r.copy(7, 1);
    Checks.due("by copy", 0, r.told(8));
    r.set(7, 1, 0, 1);
    Checks.due("set leaves none", 0, r.told(8));
    r.forget(7, 1);
    Checks.due("forget leaves none", 0, r.told(8));
    Checks.due("seven are empty", 7, r.told(9));
    Checks.due("the first one keeps its rows", 2, r.told(1));
    for (int a = -2; a <= 2; a++) {
      for (int b = -2; b <= 2; b++) {
        Checks.due("kept(1, " + a + ", " + b + ")", ENDLESS, r.kept(1, a, b));
      }
    }
  }

  private static void joinHasWhatEachRowAllows() {
    Checks.of("Terms: THE JOIN of two: all POINTS for which each ROW holds that holds for all POINTS of both");
    LinearRows r = new LinearRows(2);
    exactly(r, 0, 1, 0);
    exactly(r, 0, 2, 0);
    exactly(r, 1, 1, 4);
    exactly(r, 1, 2, 2);
    r.join(2, 0, 1);
    r.put(1, 2);
    r.put(2, 1);
    Checks.due("a point of neither, between", true, r.has(2));
    r.put(1, 3);
    Checks.due("1 less 2 is 2", true, r.has(2));
    r.put(1, 4);
    Checks.due("1 less 2 is above 2", false, r.has(2));
    Checks.due("the greater bound", 4, r.bound(2, 1, 0));
    Checks.due("the greater bound of two", 6, r.bound(2, 1, 2));
    makeEmpty(r, 3);
    r.join(4, 1, 3);
    Checks.due("with an empty one: the other", true, r.within(4, 1) && r.within(1, 4));
    r.join(5, 3, 1);
    Checks.due("of an empty one: the other", true, r.within(5, 1) && r.within(1, 5));
    Checks.due("of two empty ones", 0, r.join(6, 3, 3));
    r.join(6, 7, 0);
    Checks.due("with all points", true, r.within(7, 6));
  }

  private static void widenedLeavesRowsThatHold() {
    Checks.of("Terms: WIDENED by another one: the KEPT ROWS that hold for all POINTS of that one, too, are left, no others");
    LinearRows r = new LinearRows(2);
    r.row(0, 1, 0, 5);
    r.row(0, 2, 0, 5);
    r.row(0, 1, 2, 8);
    r.row(0, 1, -2, 100);
    r.row(1, 1, 0, 5);
    r.row(1, 2, 0, 6);
    r.row(1, 1, 2, 9);
    r.row(1, -2, 0, 95);
    r.widen(2, 0, 1);
    Checks.due("just holds", 5, r.kept(2, 1, 0));
    Checks.due("passed by 1", ENDLESS, r.kept(2, 2, 0));
    Checks.due("passed by 1", ENDLESS, r.kept(2, 1, 2));
    Checks.due("holds as it follows from two others", 100, r.kept(2, 1, -2));
    Checks.due("no others", 2, r.told(3));
    Checks.due("points are more", ENDLESS, r.bound(2, 2, 0));
    r.widen(3, 0, 7);
    Checks.due("by all points", 0, r.told(4));
    r.widen(4, 7, 0);
    Checks.due("of all points", 0, r.told(5));
    r.widen(5, 0, 0);
    Checks.due("by itself", 4, r.told(6));
    r.row(6, 1, 0, 1);
    r.row(6, 2, 0, 1);
    r.widen(6, 6, 6);
    Checks.due("no row that follows from others", 2, r.told(7));
    Checks.due("though it has a bound", 2, r.bound(6, 1, 2));
  }

  private static void widenedOfEmpty() {
    Checks.of("Terms: WIDENED: Of one that is EMPTY: it becomes the other one, with the KEPT ROWS of that");
    LinearRows r = notClosed();
    makeEmpty(r, 1);
    Checks.due("becomes the other one", 1, r.widen(2, 1, 0));
    Checks.due("two kept rows", 2, r.told(3));
    Checks.due("not what follows", ENDLESS, r.kept(2, 1, 2));
    Checks.due("its bounds", 10, r.bound(2, 1, 2));
    Checks.due("in its own place", 1, r.widen(1, 1, 0));
    Checks.due("two kept rows", 2, r.told(2));
    Checks.due("none is empty", 0, r.told(9));
    makeEmpty(r, 1);
    Checks.due("by all points", 1, r.widen(1, 1, 7));
    Checks.due("all points", true, r.within(7, 1));
    makeEmpty(r, 1);
    Checks.due("by an empty one", 0, r.widen(3, 1, 1));
    Checks.due("both are empty", 2, r.told(9));
  }

  private static void widenedByEmpty() {
    Checks.of("Terms: WIDENED: by one that is EMPTY: it stays");
    LinearRows r = notClosed();
    makeEmpty(r, 1);
    Checks.due("it stays", 1, r.widen(2, 0, 1));
    Checks.due("with its kept rows", 2, r.told(3));
    Checks.due("not what follows", ENDLESS, r.kept(2, 1, 2));
    Checks.due("its bounds", 10, r.bound(2, 1, 2));
    Checks.due("in the place of the empty one", 1, r.widen(1, 0, 1));
    Checks.due("two kept rows", 2, r.told(2));
    Checks.due("none is empty", 0, r.told(9));
  }

  private static void narrowedFillsEndlessBounds() {
    Checks.of("Terms: NARROWED: its KEPT ROWS, and for one or two TERMS of which the BOUND is ENDLESS a ROW");
    LinearRows r = new LinearRows(2);
    r.row(0, 1, 0, 9);
    r.row(0, 1, -2, 0);
    r.row(1, 1, 0, 3);
    r.row(1, 2, 0, 4);
    r.row(1, -2, 0, 2);
    Checks.due("narrow", 1, r.narrow(2, 0, 1));
    Checks.due("its own row stays, though the other's is less", 9, r.kept(2, 1, 0));
    Checks.due("its own row stays", 0, r.kept(2, 1, -2));
    Checks.due("endless here, 4 there", 4, r.kept(2, 2, 0));
    Checks.due("endless here, 2 there", 2, r.kept(2, -2, 0));
    Checks.due("the other's bound, no row of it", 7, r.kept(2, 1, 2));
    Checks.due("endless in both", ENDLESS, r.kept(2, -1, 0));
    Checks.due("no others", 5, r.told(3));
    Checks.due("what follows", 3, r.bound(2, 1, 0));
    r.narrow(3, 0, 7);
    Checks.due("by all points", 2, r.told(4));
    r.narrow(4, 7, 1);
    Checks.due("of all points: all bounds", 5, r.told(5));
    r.row(5, -1, 0, -5);
    Checks.due("no point is left", 0, r.narrow(5, 5, 1));
  }

  private static void narrowedOfEmpty() {
    Checks.of("Terms: NARROWED: One that is EMPTY stays");
    LinearRows r = notClosed();
    makeEmpty(r, 1);
    Checks.due("by one with points", 0, r.narrow(2, 1, 0));
    Checks.due("by all points", 0, r.narrow(3, 1, 7));
    Checks.due("by an empty one", 0, r.narrow(4, 1, 1));
    Checks.due("in the other's place", 0, r.narrow(0, 1, 0));
    Checks.due("no kept rows", 0, r.told(1));
    Checks.due("all are empty", 5, r.told(9));
  }

  private static void narrowedByEmpty() {
    Checks.of("Terms: NARROWED: by one that is EMPTY it becomes EMPTY");
    LinearRows r = notClosed();
    makeEmpty(r, 1);
    Checks.due("one with rows", 0, r.narrow(2, 0, 1));
    Checks.due("all points", 0, r.narrow(3, 7, 1));
    Checks.due("in its own place", 0, r.narrow(0, 0, 1));
    Checks.due("no kept rows", 0, r.told(1));
    Checks.due("all are empty", 4, r.told(9));
  }

  private static void neededRowsInOrder() {
    Checks.of("Terms: NEEDED ROWS: first of one TERM, by TERMS in the order 1, -1, 2, -2, .. , then of two, by the first");
    for (int n = 1; n <= 5; n++) {
      LinearRows r = full(n, 10, 19);
      Checks.due("all are needed", 2 * n * n, r.needed(0));
      int k = 0;
      for (int i = 0; i < 2 * n; i++) {
        isRow(r, k++, termAt(i), 0, 10);
      }
      for (int i = 0; i < 2 * n; i++) {
        for (int j = 2 * (i / 2 + 1); j < 2 * n; j++) {
          isRow(r, k++, termAt(i), termAt(j), 19);
        }
      }
      Checks.due("no more", 2 * n * n, k);
    }
    LinearRows r = new LinearRows(5);
    Checks.due("of all points none", 0, r.needed(0));
  }

  private static int termAt(int i) {
    return i % 2 == 0 ? i / 2 + 1 : -(i / 2) - 1;
  }

  private static void isRow(LinearRows r, int k, long first, long second, long c) {
    Checks.due("first term of row " + k, first, r.needs(k, 0));
    Checks.due("second term of row " + k, second, r.needs(k, 1));
    Checks.due("c of row " + k, c, r.needs(k, 2));
  }

  private static void neededRowsLeaveOutFromTheLast() {
    Checks.of("Terms: NEEDED ROWS: from the last to the first each that holds for all POINTS of those left is left out");
    LinearRows r = full(2, 10, 20);
    Checks.due("two together by 1 less do not follow", 8, full(2, 10, 19).needed(0));
    Checks.due("two together just follow", 4, r.needed(0));
    isRow(r, 0, 1, 0, 10);
    isRow(r, 3, -2, 0, 10);
    r.row(1, 1, -2, 0);
    r.row(1, 2, -1, 0);
    r.row(1, 2, 0, 3);
    Checks.due("1 and 2 are the same: the last ones go first", 3, r.needed(1));
    isRow(r, 0, 1, 0, 3);
    isRow(r, 1, 1, -2, 0);
    isRow(r, 2, -1, 2, 0);
    r.row(2, 1, 2, 1);
    r.row(2, 1, -2, 0);
    Checks.due("half of 1, cut: the row of name 1 follows", 2, r.needed(2));
    isRow(r, 0, 1, 2, 1);
    isRow(r, 1, 1, -2, 0);
    exactly(r, 3, 1, -4);
    exactly(r, 3, 2, 4);
    Checks.due("one point", 4, r.needed(3));
    isRow(r, 1, -1, 0, 4);
    isRow(r, 2, 2, 0, 4);
    LinearRows three = new LinearRows(3);
    three.set(0, 2, 1, 0);
    three.set(0, 3, 1, 0);
    Checks.due("all three are the same: 2 and 3 are left out", 4, three.needed(0));
    isRow(three, 0, 1, -2, 0);
    isRow(three, 1, 1, -3, 0);
    isRow(three, 2, -1, 2, 0);
    isRow(three, 3, -1, 3, 0);
  }

  private static void neededRowOfEmpty() {
    Checks.of("Terms: NEEDED ROWS: (EMPTY: one ROW, of TERMS 0 and 0, with -1.)");
    for (int n = 1; n <= 5; n++) {
      LinearRows r = full(n, 10, 19);
      r.needed(0);
      r.row(0, n, 0, -11);
      Checks.due("one row", 1, r.needed(0));
      isRow(r, 0, 0, 0, -1);
      Checks.dueThrow("no second row", INDEX, () -> r.needs(1, 0));
    }
  }

  private static void pointAtFirst() {
    Checks.of("Terms: THE POINT: whole numbers, at first 0");
    LinearRows r = new LinearRows(5);
    for (int name = 1; name <= 5; name++) {
      Checks.due("name " + name, 0, r.point(name));
    }
    r.row(0, 1, 0, 0);
    r.row(1, 5, 0, -1);
    Checks.due("0 is in", true, r.has(0));
    Checks.due("0 is not in", false, r.has(1));
  }

  private static void noSuchShapeNameTerm() {
    Checks.of("Terms: IndexOutOfBoundsException: there is no such SHAPE, NAME or TERM");
    LinearRows r = new LinearRows(4);
    for (int s : new int[] {-1, 8, Integer.MIN_VALUE, Integer.MAX_VALUE}) {
      Checks.dueThrow("shape " + s, INDEX, () -> r.bound(s, 1, 0));
    }
    for (int name : new int[] {0, -1, 5, Integer.MIN_VALUE, Integer.MAX_VALUE}) {
      Checks.dueThrow("name " + name, INDEX, () -> r.point(name));
    }
    for (int term : new int[] {-5, 5, Integer.MIN_VALUE, Integer.MAX_VALUE}) {
      Checks.dueThrow("term " + term, INDEX, () -> r.bound(0, term, 0));
      Checks.dueThrow("second term " + term, INDEX, () -> r.bound(0, 0, term));
    }
    Checks.due("last shape, first and last term", ENDLESS, r.bound(7, -4, -4));
    Checks.due("first shape, first and last term", ENDLESS, r.bound(0, 4, 4));
  }
}
