/** Each sentence of promises 1 to 22 that names a boundary case, by a test of its own; throws: RefusedCallsTest. */
public final class PromisesEdgesTest {
  private static final long ENDLESS = LinearRows.ENDLESS;
  private static final long GIVEN = 1000000000L;
  private static final Class<IndexOutOfBoundsException> INDEX = IndexOutOfBoundsException.class;
  private static final Class<IllegalArgumentException> ARGUMENT = IllegalArgumentException.class;

  public static void main(String[] args) {
    Checks.each(
        PromisesEdgesTest::newObjectOfTheNearestNumber,
        PromisesEdgesTest::allIsAllPoints,
        PromisesEdgesTest::allIsWithoutKeptRows,
        PromisesEdgesTest::rowTakesPointsAway,
        PromisesEdgesTest::rowAnswersZeroWhenEmpty,
        PromisesEdgesTest::rowTakesAGivenNumber,
        PromisesEdgesTest::boundOfEmpty,
        PromisesEdgesTest::keptWithout,
        PromisesEdgesTest::meetAnswersZeroWhenEmpty,
        PromisesEdgesTest::joinAnswersZeroWhenEmpty,
        PromisesEdgesTest::widenAnswersZeroWhenEmpty,
        PromisesEdgesTest::narrowAnswersZeroWhenEmpty,
        PromisesEdgesTest::outcomeMayBeOneOfThoseRead,
        PromisesEdgesTest::outcomeIsOfThoseReadAlone,
        PromisesEdgesTest::outcomeIsTheSameSet,
        PromisesEdgesTest::copyWithKeptRows,
        PromisesEdgesTest::setChangesEachPoint,
        PromisesEdgesTest::setAnswersZeroWhenEmpty,
        PromisesEdgesTest::setTakesAGivenNumber,
        PromisesEdgesTest::forgetLeavesAnything,
        PromisesEdgesTest::forgetAnswersZeroWhenEmpty,
        PromisesEdgesTest::withinIsAllPoints,
        PromisesEdgesTest::putTakesAGivenNumber,
        PromisesEdgesTest::putAnswersWhatItWas,
        PromisesEdgesTest::hasEdges,
        PromisesEdgesTest::sampleLeast,
        PromisesEdgesTest::sampleGreatest,
        PromisesEdgesTest::sampleZero,
        PromisesEdgesTest::sampleOfEmpty,
        PromisesEdgesTest::neededHowMany,
        PromisesEdgesTest::needsOfTheLatestNeeded,
        PromisesEdgesTest::needsThereIsNoneSuch,
        PromisesEdgesTest::needsAnotherWhat,
        PromisesEdgesTest::fitsEachNumberOfBits,
        PromisesEdgesTest::fitsEmptyAndEndless,
        PromisesEdgesTest::fitsBitsOutside,
        PromisesEdgesTest::arrayInAllPoints,
        PromisesEdgesTest::arrayInNone,
        PromisesEdgesTest::arrayElse,
        PromisesEdgesTest::arrayOfEmpty,
        PromisesEdgesTest::arrayOfTheSame,
        PromisesEdgesTest::toldNames,
        PromisesEdgesTest::toldKeptRows,
        PromisesEdgesTest::toldEmptyShapes,
        PromisesEdgesTest::toldAnotherWhat);
  }

  private static void makeEmpty(LinearRows r, int s) {
    TermsEdgesTest.makeEmpty(r, s);
  }

  private static void exactly(LinearRows r, int s, int name, long v) {
    TermsEdgesTest.exactly(r, s, name, v);
  }

  private static void newObjectOfTheNearestNumber() {
    Checks.of("Promise 1: n NAMES (1 to 5; of another number the nearest one)");
    int[] given = {1, 2, 3, 4, 5, 0, -1, Integer.MIN_VALUE, 6, 7, Integer.MAX_VALUE};
    int[] want = {1, 2, 3, 4, 5, 1, 1, 1, 5, 5, 5};
    for (int i = 0; i < given.length; i++) {
      LinearRows r = new LinearRows(given[i]);
      int n = want[i];
      Checks.due("names of " + given[i], n, r.told(0));
      Checks.due("the last name of " + given[i], 0, r.point(n));
      Checks.dueThrow("a name more of " + given[i], INDEX, () -> r.point(n + 1));
      Checks.due("terms of " + given[i], ENDLESS, r.bound(7, -n, -n));
    }
  }

  private static void allIsAllPoints() {
    Checks.of("Promise 2: A SHAPE is all POINTS");
    for (int s = 0; s < 8; s += 7) {
      LinearRows r = TermsEdgesTest.full(3, 10, 19);
      r.copy(s, 0);
      r.all(s);
      Checks.due("of one with all rows", true, r.within(6, s));
      Checks.due("of one with all rows, and no others", true, r.within(s, 6));
      makeEmpty(r, s);
      r.all(s);
      Checks.due("of an empty one", true, r.within(6, s));
      Checks.due("of an empty one, and no others", true, r.within(s, 6));
      Checks.due("none is empty", 0, r.told(9));
      Checks.due("opposite terms", 0, r.bound(s, -3, 3));
      r.all(s);
      Checks.due("of all points", ENDLESS, r.bound(s, -3, 2));
    }
  }

  private static void allIsWithoutKeptRows() {
    Checks.of("Promise 2: without KEPT ROWS");
    LinearRows r = TermsEdgesTest.full(2, 10, 19);
    r.all(0);
    Checks.due("told", 0, r.told(1));
    for (int a = -2; a <= 2; a++) {
      for (int b = -2; b <= 2; b++) {
        Checks.due("kept(0, " + a + ", " + b + ")", ENDLESS, r.kept(0, a, b));
      }
    }
    r.row(0, 1, 0, 30);
    Checks.due("a row with a greater c than before", 30, r.kept(0, 1, 0));
  }

  private static void rowTakesPointsAway() {
    Checks.of("Promise 3: the POINTS for which it does not are in it no more");
    LinearRows r = new LinearRows(2);
    r.put(1, 4);
    r.put(2, -1);
    r.row(0, 1, 2, 3);
    Checks.due("3 is at most 3", true, r.has(0));
    r.row(0, 1, 2, 2);
    Checks.due("3 is not at most 2", false, r.has(0));
    r.row(0, 1, 2, GIVEN);
    Checks.due("no point comes back", false, r.has(0));
    Checks.due("no point comes back", 2, r.bound(0, 1, 2));
    r.row(1, 1, 1, 9);
    Checks.due("twice 4 is at most 9", true, r.has(1));
    r.row(1, 1, 1, 7);
    Checks.due("twice 4 is not at most 7", false, r.has(1));
  }

  private static void rowAnswersZeroWhenEmpty() {
    Checks.of("Promise 3: Answers 1, 0 when it is EMPTY then");
    LinearRows r = new LinearRows(2);
    Checks.due("1", 1, r.row(0, 1, 0, 0));
    Checks.due("one number is left", 1, r.row(0, -1, 0, 0));
    Checks.due("none is left", 0, r.row(0, -1, 0, -1));
    Checks.due("it was empty", 0, r.row(0, 2, 0, GIVEN));
    Checks.due("it was empty, of none", 0, r.row(0, 0, 0, GIVEN));
    Checks.due("it was empty, of opposites", 0, r.row(0, 2, -2, 0));
    Checks.due("another one is not", 1, r.row(1, 0, 0, 0));
  }

  private static void rowTakesAGivenNumber() {
    Checks.of("Promise 3: IllegalArgumentException: c is not -1000000000 to 1000000000");
    LinearRows r = new LinearRows(2);
    Checks.due("the greatest", 1, r.row(0, 1, 0, GIVEN));
    Checks.due("the least", 1, r.row(0, 2, 0, -GIVEN));
    Checks.due("the greatest", GIVEN, r.kept(0, 1, 0));
    Checks.due("the least", -GIVEN, r.kept(0, 2, 0));
    for (long c : new long[] {GIVEN + 1, -GIVEN - 1, ENDLESS, -ENDLESS, Long.MAX_VALUE, Long.MIN_VALUE}) {
      Checks.dueThrow("one term, " + c, ARGUMENT, () -> r.row(1, 1, 0, c));
      Checks.dueThrow("two terms, " + c, ARGUMENT, () -> r.row(1, 1, 2, c));
      Checks.dueThrow("twice, " + c, ARGUMENT, () -> r.row(1, 1, 1, c));
      Checks.dueThrow("opposites, " + c, ARGUMENT, () -> r.row(1, 1, -1, c));
      Checks.dueThrow("none, " + c, ARGUMENT, () -> r.row(1, 0, 0, c));
    }
    Checks.due("no row came", 0, r.told(2));
    makeEmpty(r, 1);
    Checks.dueThrow("of an empty one", ARGUMENT, () -> r.row(1, 1, 0, GIVEN + 1));
  }

  private static void boundOfEmpty() {
    Checks.of("Promise 4: -ENDLESS when the SHAPE is EMPTY");
    LinearRows r = TermsEdgesTest.full(3, 10, 19);
    r.row(0, 1, 0, -11);
    for (int a = -3; a <= 3; a++) {
      for (int b = -3; b <= 3; b++) {
        Checks.due("bound(0, " + a + ", " + b + ")", -ENDLESS, r.bound(0, a, b));
      }
    }
    Checks.due("another one", ENDLESS, r.bound(1, 1, 0));
  }

  private static void keptWithout() {
    Checks.of("Promise 5: ENDLESS without (also of a TERM twice, of one and its opposite, of none)");
    LinearRows r = TermsEdgesTest.full(3, 10, 19);
    r.row(0, 2, 2, 5);
    r.row(0, 2, -2, 5);
    r.row(0, 0, 0, 5);
    for (int a = -3; a <= 3; a++) {
      Checks.due("twice " + a, ENDLESS, r.kept(0, a, a));
      Checks.due("opposites " + a, ENDLESS, r.kept(0, a, -a));
    }
    Checks.due("of none", ENDLESS, r.kept(0, 0, 0));
    Checks.due("the term alone", 2, r.kept(0, 2, 0));
    Checks.due("without", ENDLESS, r.kept(1, 2, 0));
    Checks.due("without", ENDLESS, r.kept(1, 2, -3));
    r.row(1, 2, 0, 1);
    r.row(1, -3, 0, 1);
    Checks.due("without, though it has a bound", ENDLESS, r.kept(1, 2, -3));
    Checks.due("its bound", 2, r.bound(1, 2, -3));
  }

  /** Shape 0: name 1 is 0. Shape 1: name 1 is 1. Shape 2: empty. Shape 3: all points. */
  private static LinearRows four() {
    LinearRows r = new LinearRows(2);
    exactly(r, 0, 1, 0);
    exactly(r, 1, 1, 1);
    makeEmpty(r, 2);
    return r;
  }

  private static void meetAnswersZeroWhenEmpty() {
    Checks.of("Promise 6: what is in s and in u: 1, 0 when it is EMPTY");
    LinearRows r = four();
    Checks.due("nothing in common", 0, r.meet(4, 0, 1));
    Checks.due("empty", 2, r.told(9));
    Checks.due("its bound", -ENDLESS, r.bound(4, 1, 0));
    Checks.due("with itself", 1, r.meet(4, 0, 0));
    Checks.due("empty no more", 1, r.told(9));
    Checks.due("with all points", 1, r.meet(4, 3, 1));
    Checks.due("with all points", 1, r.bound(4, 1, 0));
    Checks.due("of two that are all points", 1, r.meet(5, 3, 3));
    Checks.due("with an empty one", 0, r.meet(5, 0, 2));
    Checks.due("of an empty one", 0, r.meet(5, 2, 0));
    Checks.due("of two empty ones", 0, r.meet(5, 2, 2));
    r.row(6, 1, 0, 0);
    r.row(7, -1, 0, 0);
    Checks.due("one number in common", 1, r.meet(6, 6, 7));
    Checks.due("it", true, r.within(6, 0) && r.within(0, 6));
  }

  private static void joinAnswersZeroWhenEmpty() {
    Checks.of("Promise 7: THE JOIN of s and u: 1, 0 when it is EMPTY");
    LinearRows r = four();
    Checks.due("of two", 1, r.join(4, 0, 1));
    Checks.due("of two", true, r.bound(4, 1, 0) == 1 && r.bound(4, -1, 0) == 0);
    Checks.due("of an empty one", 1, r.join(5, 2, 1));
    Checks.due("by an empty one", 1, r.join(5, 1, 2));
    Checks.due("of two empty ones", 0, r.join(5, 2, 2));
    Checks.due("empty", 2, r.told(9));
    Checks.due("of an empty one and all points", 1, r.join(5, 2, 3));
    Checks.due("all points", true, r.within(3, 5));
  }

  private static void widenAnswersZeroWhenEmpty() {
    Checks.of("Promise 8: s WIDENED by u: 1, 0 when it is EMPTY");
    LinearRows r = four();
    Checks.due("of two", 1, r.widen(4, 0, 1));
    Checks.due("one side is left", true, r.bound(4, 1, 0) == ENDLESS && r.bound(4, -1, 0) == 0);
    Checks.due("of an empty one", 1, r.widen(5, 2, 1));
    Checks.due("by an empty one", 1, r.widen(5, 1, 2));
    Checks.due("of two empty ones", 0, r.widen(5, 2, 2));
    Checks.due("empty", 2, r.told(9));
    Checks.due("of all points", 1, r.widen(5, 3, 0));
    Checks.due("by all points", 1, r.widen(5, 0, 3));
  }

  private static void narrowAnswersZeroWhenEmpty() {
    Checks.of("Promise 9: s NARROWED by u: 1, 0 when it is EMPTY");
    LinearRows r = four();
    Checks.due("of two, with no point in common: nothing is endless", 1, r.narrow(4, 0, 1));
    Checks.due("it stays", 0, r.bound(4, 1, 0));
    r.row(5, -1, 0, -1);
    Checks.due("a row comes that leaves no point", 0, r.narrow(5, 5, 0));
    Checks.due("of an empty one", 0, r.narrow(6, 2, 0));
    Checks.due("by an empty one", 0, r.narrow(6, 0, 2));
    Checks.due("of two empty ones", 0, r.narrow(6, 2, 2));
    Checks.due("empty", 3, r.told(9));
    Checks.due("by all points", 1, r.narrow(6, 0, 3));
    Checks.due("of all points", 1, r.narrow(6, 3, 0));
    Checks.due("all rows of the other", 2, r.told(7));
  }

  private static void outcomeMayBeOneOfThoseRead() {
    Checks.of("Promises 6 to 9: SHAPE t becomes ..: t may be s or u or both");
    for (int kind = 0; kind < 4; kind++) {
      for (int which = 0; which < 3; which++) {
        LinearRows apart = twoShapes();
        LinearRows same = twoShapes();
        int u = which == 2 ? 0 : 1;
        Checks.due("answer", change(apart, kind, 7, 0, u), change(same, kind, which == 1 ? 1 : 0, 0, u));
        int s = which == 1 ? 1 : 0;
        for (int a = -2; a <= 2; a++) {
          for (int b = a; b <= 2; b++) {
            Checks.due("bound, kind " + kind, apart.bound(7, a, b), same.bound(s, a, b));
            Checks.due("kept, kind " + kind, apart.kept(7, a, b), same.kept(s, a, b));
          }
        }
      }
    }
  }

  private static LinearRows twoShapes() {
    LinearRows r = new LinearRows(2);
    r.row(0, 1, 0, 5);
    r.row(0, 2, -1, 3);
    r.row(1, 1, 0, 7);
    r.row(1, -1, 0, 2);
    r.row(1, 2, -1, 2);
    return r;
  }

  private static int change(LinearRows r, int kind, int t, int s, int u) {
    switch (kind) {
      case 0:
        return r.meet(t, s, u);
      case 1:
        return r.join(t, s, u);
      case 2:
        return r.widen(t, s, u);
      default:
        return r.narrow(t, s, u);
    }
  }

  /** After a call that made another shape: nothing of that one may come into this one. */
  private static void outcomeIsOfThoseReadAlone() {
    Checks.of("Promises 3, 6 to 9, 11, 12: 0 when it is EMPTY, also behind a call that was about another SHAPE");
    LinearRows r = new LinearRows(2);
    makeEmpty(r, 0);
    Checks.Call[] calls = {
      () -> r.row(0, 1, 0, 5), () -> r.meet(0, 0, 2), () -> r.meet(0, 2, 0), () -> r.join(0, 0, 0),
      () -> r.widen(0, 0, 0), () -> r.narrow(0, 0, 2), () -> r.narrow(0, 2, 0), () -> r.set(0, 1, 0, 5),
      () -> r.set(0, 1, 1, 1), () -> r.forget(0, 1)
    };
    for (int k = 0; k < calls.length; k++) {
      Checks.due("another one", 1, r.row(1, 1, 0, 100 - k));
      Checks.due("call " + k, 0, calls[k].answer());
      Checks.due("empty after call " + k, -ENDLESS, r.bound(0, 1, 0));
      Checks.due("kept after call " + k, 0, r.told(1));
      Checks.due("the other one after call " + k, 100 - k, r.bound(1, 1, 0));
    }
    Checks.due("empty ones", 1, r.told(9));
  }

  /** The same set of points by other calls: each is within the other. */
  private static void outcomeIsTheSameSet() {
    Checks.of("Promises 3, 6 to 12: SHAPE t becomes ..: these POINTS and no others");
    LinearRows r = new LinearRows(3);
    r.row(0, 1, 2, 5);
    r.row(0, -1, 0, 4);
    r.copy(1, 0);
    same(r, "copy", 0, 1);
    r.meet(2, 0, 7);
    same(r, "meet with all points", 0, 2);
    r.join(2, 0, 0);
    same(r, "join with itself", 0, 2);
    r.widen(2, 0, 0);
    same(r, "widened by itself", 0, 2);
    r.narrow(2, 7, 0);
    same(r, "all points narrowed", 0, 2);
    r.set(2, 3, 1, 6);
    r.forget(2, 3);
    same(r, "a name that is set and forgotten", 0, 2);
    r.set(2, 2, -2, 1);
    r.set(2, 2, -2, 1);
    same(r, "turned twice", 0, 2);
    r.all(2);
    r.row(2, -1, 0, 4);
    r.row(2, 1, 2, 5);
    same(r, "the rows in another order", 0, 2);
    r.widen(2, 0, 7);
    same(r, "widened by all points", 7, 2);
    r.join(2, 0, 7);
    same(r, "joined with all points", 7, 2);
  }

  private static void same(LinearRows r, String how, int s, int u) {
    Checks.due(how + ": no point less", true, r.within(s, u));
    Checks.due(how + ": no point more", true, r.within(u, s));
  }

  private static void copyWithKeptRows() {
    Checks.of("Promise 10: SHAPE t becomes s, with its KEPT ROWS");
    LinearRows r = four();
    r.row(4, 1, 0, 5);
    r.row(4, 2, 0, 5);
    r.copy(7, 4);
    Checks.due("two rows", 2, r.told(8));
    Checks.due("its bound", 10, r.bound(7, 1, 2));
    r.row(7, 1, 0, 0);
    Checks.due("the first one stays", 5, r.bound(4, 1, 0));
    r.copy(7, 2);
    Checks.due("of an empty one", -ENDLESS, r.bound(7, 1, 0));
    r.copy(2, 3);
    Checks.due("over an empty one", 1, r.told(9));
    r.copy(7, 7);
    Checks.due("an empty one over itself", 1, r.told(9));
    r.copy(4, 4);
    Checks.due("over itself", 2, r.told(5));
  }

  private static void setChangesEachPoint() {
    Checks.of("Promise 11: NAME x becomes what TERM a was, and c, in each POINT of a SHAPE");
    LinearRows r = new LinearRows(5);
    exactly(r, 0, 5, 3);
    r.row(0, 1, -5, 0);
    r.set(0, 5, -5, 4);
    Checks.due("less itself and 4", 1, r.bound(0, 5, 0));
    Checks.due("what another was to it", 4, r.bound(0, 1, 5));
    r.set(0, 5, 5, -GIVEN);
    Checks.due("itself less 10^9", GIVEN - 1, r.bound(0, -5, 0));
    r.set(0, 2, 5, GIVEN);
    Checks.due("another and 10^9", 1, r.bound(0, 2, 0));
    r.set(0, 2, 0, GIVEN);
    Checks.due("10^9 alone", -GIVEN, r.bound(0, -2, 0));
    Checks.due("no more what it was", 2 * GIVEN - 1, r.bound(0, 2, -5));
    r.set(1, 1, -2, 7);
    Checks.due("less an endless one", 7, r.bound(1, 1, 2));
    Checks.due("less an endless one", -7, r.bound(1, -2, -1));
    Checks.due("still endless", ENDLESS, r.bound(1, 1, 0));
    r.row(2, 1, 0, 5);
    r.set(2, 1, 2, 0);
    Checks.due("an endless one: the old row is gone", ENDLESS, r.bound(2, 1, 0));
  }

  private static void setAnswersZeroWhenEmpty() {
    Checks.of("Promise 11: 1, 0 when it is EMPTY");
    LinearRows r = four();
    Checks.due("a number in an empty one", 0, r.set(2, 1, 0, 5));
    Checks.due("a term in an empty one", 0, r.set(2, 1, -2, 5));
    Checks.due("itself in an empty one", 0, r.set(2, 2, 2, 0));
    Checks.due("still empty", 1, r.told(9));
    Checks.due("in all points", 1, r.set(3, 1, 0, 5));
    Checks.due("in one with rows", 1, r.set(0, 1, 2, 5));
  }

  private static void setTakesAGivenNumber() {
    Checks.of("Promise 11: IllegalArgumentException: c is not -1000000000 to 1000000000");
    LinearRows r = four();
    for (long c : new long[] {GIVEN + 1, -GIVEN - 1, ENDLESS, -ENDLESS, Long.MAX_VALUE, Long.MIN_VALUE}) {
      Checks.dueThrow("of a number, " + c, ARGUMENT, () -> r.set(0, 1, 0, c));
      Checks.dueThrow("of a term, " + c, ARGUMENT, () -> r.set(0, 1, -2, c));
      Checks.dueThrow("in an empty one, " + c, ARGUMENT, () -> r.set(2, 1, 1, c));
      Checks.dueThrow("in all points, " + c, ARGUMENT, () -> r.set(3, 1, 1, c));
    }
    Checks.due("nothing changed", 0, r.bound(0, 1, 0));
    Checks.due("the greatest", 1, r.set(0, 1, 0, GIVEN));
    Checks.due("the greatest", GIVEN, r.bound(0, 1, 0));
    Checks.due("the least", 1, r.set(0, 1, 0, -GIVEN));
    Checks.due("the least", -GIVEN, r.bound(0, 1, 0));
  }

  private static void forgetLeavesAnything() {
    Checks.of("Promise 12: NAME x may be anything in each POINT of a SHAPE");
    for (int name = 1; name <= 5; name += 4) {
      LinearRows r = TermsEdgesTest.full(5, 10, 19);
      Checks.due("forget", 1, r.forget(0, name));
      for (int a = -5; a <= 5; a++) {
        boolean opposite = a == -name;
        Checks.due("beside " + a, opposite ? 0 : ENDLESS, r.bound(0, name, a));
        Checks.due("less it, beside " + a, a == name ? 0 : ENDLESS, r.bound(0, -name, a));
      }
      r.put(name, GIVEN);
      Checks.due("10^9 as well", true, r.has(0));
      r.put(3, 11);
      Checks.due("the others are bound", false, r.has(0));
    }
    LinearRows one = new LinearRows(1);
    exactly(one, 0, 1, 3);
    Checks.due("the only name", 1, one.forget(0, 1));
    Checks.due("all points", true, one.within(1, 0));
    Checks.due("all points, and no others", true, one.within(0, 1));
  }

  private static void forgetAnswersZeroWhenEmpty() {
    Checks.of("Promise 12: 1, 0 when it is EMPTY");
    LinearRows r = four();
    Checks.due("an empty one", 0, r.forget(2, 1));
    Checks.due("an empty one, each name", 0, r.forget(2, 2));
    Checks.due("still empty", -ENDLESS, r.bound(2, 1, -1));
    Checks.due("all points", 1, r.forget(3, 2));
    Checks.due("one with rows", 1, r.forget(0, 1));
    Checks.due("one is empty", 1, r.told(9));
  }

  private static void withinIsAllPoints() {
    Checks.of("Promise 13: Whether all POINTS of s are in u");
    LinearRows r = four();
    Checks.due("an empty one in an empty one", true, r.within(2, 2));
    Checks.due("an empty one in one with rows", true, r.within(2, 0));
    Checks.due("an empty one in all points", true, r.within(2, 3));
    Checks.due("one with rows in an empty one", false, r.within(0, 2));
    Checks.due("all points in an empty one", false, r.within(3, 2));
    Checks.due("all points in all points", true, r.within(3, 4));
    Checks.due("all points in one with rows", false, r.within(3, 0));
    Checks.due("one with rows in all points", true, r.within(0, 3));
    Checks.due("itself", true, r.within(0, 0));
    Checks.due("another", false, r.within(0, 1));
    r.row(5, 1, 2, 4);
    r.row(6, 1, 2, 5);
    Checks.due("by 1 less", true, r.within(5, 6));
    Checks.due("by 1 more", false, r.within(6, 5));
    r.row(7, 1, 0, 2);
    r.row(7, 2, 0, 2);
    Checks.due("follows from two others", true, r.within(7, 5));
    r.row(4, 1, 0, 2);
    r.row(4, 2, 0, 3);
    Checks.due("passed by 1", false, r.within(4, 5));
  }

  private static void putTakesAGivenNumber() {
    Checks.of("Promise 14: IllegalArgumentException: v is not -1000000000 to 1000000000");
    LinearRows r = new LinearRows(2);
    for (long v : new long[] {GIVEN + 1, -GIVEN - 1, ENDLESS, -ENDLESS, Long.MAX_VALUE, Long.MIN_VALUE}) {
      Checks.dueThrow("put " + v, ARGUMENT, () -> r.put(2, v));
      Checks.due("nothing changed", 0, r.point(2));
    }
    Checks.due("the greatest", 0, r.put(2, GIVEN));
    Checks.due("the greatest", GIVEN, r.point(2));
    Checks.due("the least", GIVEN, r.put(2, -GIVEN));
    Checks.due("the least", -GIVEN, r.point(2));
  }

  private static void putAnswersWhatItWas() {
    Checks.of("Promise 14: Answers what it was");
    LinearRows r = new LinearRows(5);
    Checks.due("0 at first", 0, r.put(5, 7));
    Checks.due("7", 7, r.put(5, 7));
    Checks.due("7 again", 7, r.put(5, 8));
    Checks.due("another name", 0, r.put(1, 1));
    exactly(r, 0, 1, GIVEN);
    r.set(0, 1, 1, GIVEN);
    r.sample(0);
    Checks.due("beyond what may be put", 2 * GIVEN, r.put(1, 0));
  }

  private static void hasEdges() {
    Checks.of("Promise 16: Whether THE POINT is in a SHAPE");
    LinearRows r = four();
    Checks.due("an empty one", false, r.has(2));
    Checks.due("all points", true, r.has(3));
    Checks.due("0 is 0", true, r.has(0));
    Checks.due("0 is not 1", false, r.has(1));
    r.put(1, 1);
    Checks.due("1 is not 0", false, r.has(0));
    Checks.due("1 is 1", true, r.has(1));
    r.row(4, -1, -2, -GIVEN);
    r.put(1, GIVEN);
    Checks.due("at its edge", true, r.has(4));
    r.put(2, -1);
    Checks.due("beyond its edge", false, r.has(4));
    r.put(2, GIVEN);
    r.row(5, 1, 2, GIVEN);
    Checks.due("far beyond its edge", false, r.has(5));
    r.row(6, 2, 2, GIVEN);
    Checks.due("twice", false, r.has(6));
  }

  private static void sampleIs(LinearRows r, int s, long... want) {
    Checks.due("sample", true, r.sample(s));
    for (int name = 1; name <= want.length; name++) {
      Checks.due("name " + name, want[name - 1], r.point(name));
    }
    Checks.due("it is in", true, r.has(s));
  }

  private static void sampleLeast() {
    Checks.of("Promise 17: NAME by NAME, among the POINTS that have the numbers told so far: the least that it can be");
    LinearRows r = new LinearRows(3);
    r.put(1, 50);
    r.put(3, 50);
    r.row(0, -1, 0, 4);
    r.row(0, 1, 0, 9);
    r.row(0, -1, -2, 0);
    r.row(0, 2, -3, -1);
    sampleIs(r, 0, -4, 4, 5);
    exactly(r, 1, 1, 7);
    r.row(1, 2, -1, 0);
    r.row(1, -2, 0, 1);
    r.row(1, -3, -1, 0);
    r.row(1, -3, 2, 0);
    sampleIs(r, 1, 7, -1, -1);
    r.row(2, 1, 2, 1);
    r.row(2, -1, -2, -1);
    r.row(2, 1, -2, 4);
    r.row(2, -1, 2, 4);
    r.row(2, -3, 1, 0);
    sampleIs(r, 2, -1, 2, -1);
  }

  private static void sampleGreatest() {
    Checks.of("Promise 17: if there is no least, the greatest");
    LinearRows r = new LinearRows(3);
    r.row(0, 1, 0, 9);
    r.row(0, 1, 2, 4);
    r.row(0, 3, -2, 1);
    r.row(0, 3, 1, 0);
    sampleIs(r, 0, 9, -5, -9);
    r.row(1, 1, 0, -GIVEN);
    r.row(1, 2, 1, GIVEN);
    r.row(1, 3, 1, 0);
    r.row(1, 3, 2, 0);
    sampleIs(r, 1, -GIVEN, 2 * GIVEN, -2 * GIVEN);
    r.row(2, 1, 2, 1);
    r.row(2, 1, -2, 0);
    sampleIs(r, 2, 0, 0, 0);
    r.row(2, -2, 0, -1);
    sampleIs(r, 2, 0, 1, 0);
  }

  private static void sampleZero() {
    Checks.of("Promise 17: if there is none either, 0");
    LinearRows r = new LinearRows(3);
    r.put(1, 5);
    r.put(2, 6);
    r.put(3, -GIVEN);
    sampleIs(r, 0, 0, 0, 0);
    r.put(1, 5);
    r.row(1, 2, -1, -3);
    r.row(1, -2, 1, 3);
    sampleIs(r, 1, 0, -3, 0);
    r.row(2, 3, -1, -3);
    r.put(2, 5);
    sampleIs(r, 2, 0, 0, -3);
  }

  private static void sampleOfEmpty() {
    Checks.of("Promise 17: false (and nothing changes) when it is EMPTY");
    LinearRows r = four();
    r.put(1, 5);
    r.put(2, 6);
    Checks.due("an empty one", false, r.sample(2));
    Checks.due("1", 5, r.point(1));
    Checks.due("2", 6, r.point(2));
    Checks.due("still empty", 1, r.told(9));
    Checks.due("one with points", true, r.sample(0));
    Checks.due("2", 0, r.point(2));
  }

  private static void neededHowMany() {
    Checks.of("Promise 18: The NEEDED ROWS of a SHAPE are told: how many");
    LinearRows r = four();
    Checks.due("of all points", 0, r.needed(3));
    Checks.due("of an empty one", 1, r.needed(2));
    Checks.due("of one number", 2, r.needed(0));
    r.row(0, 2, 0, 5);
    r.row(0, 1, 2, 5);
    Checks.due("a row that follows is not needed", 3, r.needed(0));
    Checks.due("the kept rows stay", 4, r.told(1));
    Checks.due("of five names, all", 50, TermsEdgesTest.full(5, 10, 19).needed(0));
    Checks.due("of five names, what is in a box", 10, TermsEdgesTest.full(5, 10, 20).needed(0));
    Checks.due("of five names, what two say", 40, TermsEdgesTest.full(5, 10, 10).needed(0));
  }

  private static void needsOfTheLatestNeeded() {
    Checks.of("Promise 19: Of the k-th of the ROWS that the latest needed() told");
    LinearRows r = four();
    r.needed(1);
    r.row(1, 1, 0, 0);
    Checks.due("first term", 1, r.needs(0, 0));
    Checks.due("no second term", 0, r.needs(0, 1));
    Checks.due("c, as it was told", 1, r.needs(0, 2));
    Checks.due("the last one", -1, r.needs(1, 0));
    Checks.due("the last one", -1, r.needs(1, 2));
    r.row(4, -2, 1, 9);
    r.needed(4);
    Checks.due("the lesser name first", 1, r.needs(0, 0));
    Checks.due("the second term", -2, r.needs(0, 1));
    Checks.due("c", 9, r.needs(0, 2));
    Checks.dueThrow("the one before told two, this one one", INDEX, () -> r.needs(1, 0));
    Checks.dueThrow("no such shape", INDEX, () -> r.needed(8));
    Checks.due("one that throws tells nothing", 9, r.needs(0, 2));
    r.needed(1);
    Checks.due("of an empty one", -1, r.needs(0, 2));
  }

  private static void needsThereIsNoneSuch() {
    Checks.of("Promise 19: IndexOutOfBoundsException: there is none such");
    LinearRows r = four();
    for (int k : new int[] {0, 1, -1, Integer.MIN_VALUE, Integer.MAX_VALUE}) {
      Checks.dueThrow("before needed(), " + k, INDEX, () -> r.needs(k, 0));
    }
    r.needed(0);
    for (int k : new int[] {2, 3, -1, Integer.MIN_VALUE, Integer.MAX_VALUE}) {
      for (int what = 0; what < 3; what++) {
        int part = what;
        Checks.dueThrow("of two rows, " + k, INDEX, () -> r.needs(k, part));
      }
    }
    r.needed(3);
    Checks.dueThrow("of no rows", INDEX, () -> r.needs(0, 0));
    LinearRows full = TermsEdgesTest.full(5, 10, 19);
    full.needed(0);
    Checks.due("the 50th", 19, full.needs(49, 2));
    Checks.dueThrow("the 51st", INDEX, () -> full.needs(50, 0));
  }

  private static void needsAnotherWhat() {
    Checks.of("Promise 19: IndexOutOfBoundsException: or another what");
    LinearRows r = four();
    r.needed(0);
    for (int what : new int[] {-1, 3, 4, Integer.MIN_VALUE, Integer.MAX_VALUE}) {
      Checks.dueThrow("of the first one, " + what, INDEX, () -> r.needs(0, what));
      Checks.dueThrow("of the last one, " + what, INDEX, () -> r.needs(1, what));
    }
    Checks.due("the last what", 0, r.needs(0, 2));
  }

  private static void fitsEachNumberOfBits() {
    Checks.of("Promise 20: Whether TERM a is from -2^(bits - 1) to 2^(bits - 1) - 1 in all POINTS of a SHAPE");
    for (int bits = 1; bits <= 50; bits++) {
      long span = 1L << (bits - 1);
      LinearRows r = new LinearRows(3);
      Far.atMost(r, 0, 7, 1, span - 1);
      Far.atMost(r, 1, 7, -1, span);
      Checks.due("not bound below, " + bits, false, r.fits(0, 1, bits));
      Checks.due("not bound above, " + bits, false, r.fits(1, 1, bits));
      r.meet(2, 0, 1);
      Checks.due("from the least to the greatest, " + bits, true, r.fits(2, 1, bits));
      Checks.due("and less it, " + bits, false, r.fits(2, -1, bits));
      Checks.due("in a bit less, " + bits, false, bits > 1 && r.fits(2, 1, bits - 1));
      Checks.due("in a bit more, " + bits, true, r.fits(2, -1, bits + 1));
      Checks.due("in the most bits, " + bits, true, r.fits(2, -1, 62));
      r.set(2, 1, 1, 1);
      Checks.due("above by 1, " + bits, false, r.fits(2, 1, bits));
      r.set(2, 1, 1, -2);
      Checks.due("below by 1, " + bits, false, r.fits(2, 1, bits));
    }
  }

  private static void fitsEmptyAndEndless() {
    Checks.of("Promise 20: in all POINTS of a SHAPE: EMPTY, and ENDLESS on a side");
    LinearRows r = four();
    Checks.due("an empty one, 1 bit", true, r.fits(2, 1, 1));
    Checks.due("an empty one, 62 bits", true, r.fits(2, -2, 62));
    Checks.due("endless, 62 bits", false, r.fits(3, 1, 62));
    r.row(3, 1, 0, 0);
    Checks.due("endless below", false, r.fits(3, 1, 62));
    Checks.due("less it: endless above", false, r.fits(3, -1, 62));
    Checks.due("nothing is 0, 1 bit", true, r.fits(3, 0, 1));
    Checks.due("0, 1 bit", true, r.fits(0, 1, 1));
    Checks.due("1, 1 bit", false, r.fits(1, 1, 1));
    Checks.due("less 1, 1 bit", true, r.fits(1, -1, 1));
  }

  private static void fitsBitsOutside() {
    Checks.of("Promise 20: IllegalArgumentException: bits is not 1 to 62");
    LinearRows r = four();
    for (int bits : new int[] {0, 63, -1, 64, 65, Integer.MIN_VALUE, Integer.MAX_VALUE}) {
      Checks.dueThrow("one with rows, " + bits, ARGUMENT, () -> r.fits(0, 1, bits));
      Checks.dueThrow("an empty one, " + bits, ARGUMENT, () -> r.fits(2, 1, bits));
      Checks.dueThrow("all points, " + bits, ARGUMENT, () -> r.fits(3, 0, bits));
    }
    Checks.due("1", true, r.fits(0, 1, 1));
    Checks.due("62", true, r.fits(0, 1, 62));
  }

  private static void arrayInAllPoints() {
    Checks.of("Promise 21: 1 when the index is 0 or above, and below the length, in all POINTS of a SHAPE");
    LinearRows r = new LinearRows(3);
    r.row(0, -3, 0, 0);
    r.row(0, 3, -1, -1);
    Checks.due("0 or above, and below by 1", 1, r.array(0, 3, 1));
    exactly(r, 1, 1, 0);
    exactly(r, 1, 2, 1);
    Checks.due("0 of 1", 1, r.array(1, 1, 2));
    r.row(2, -1, 0, 1);
    r.row(2, 1, -2, -1);
    Checks.due("may be -1", 0, r.array(2, 1, 2));
    r.row(3, -1, 0, 0);
    r.row(3, 1, -2, 0);
    Checks.due("may be the length", 0, r.array(3, 1, 2));
    r.row(4, 1, -3, -1);
    r.row(4, 3, -2, 0);
    r.row(4, -1, -1, 1);
    Checks.due("below by another name, twice at least -1", 1, r.array(4, 1, 2));
  }

  private static void arrayInNone() {
    Checks.of("Promise 21: -1 when that is so in none");
    LinearRows r = new LinearRows(3);
    r.row(0, 1, 0, -1);
    Checks.due("below 0", -1, r.array(0, 1, 2));
    r.row(1, 2, 0, 0);
    Checks.due("no length", -1, r.array(1, 1, 2));
    r.row(2, 2, -1, 0);
    Checks.due("the length or above", -1, r.array(2, 1, 2));
    r.row(3, 1, 2, 0);
    Checks.due("both together 0: no index is below", -1, r.array(3, 1, 2));
    r.row(4, 1, 2, 1);
    Checks.due("both together 1: 0 of 1", 0, r.array(4, 1, 2));
    r.row(5, 1, 2, 2);
    r.row(5, -1, -2, -2);
    r.row(5, 2, -1, 1);
    Checks.due("1 of 1, if at all", -1, r.array(5, 1, 2));
    r.row(6, 3, 0, 0);
    r.row(6, 2, -3, 0);
    Checks.due("no length by another name", -1, r.array(6, 1, 2));
  }

  private static void arrayElse() {
    Checks.of("Promise 21: 0 else");
    LinearRows r = new LinearRows(2);
    Checks.due("all points", 0, r.array(0, 1, 2));
    Checks.due("all points, turned", 0, r.array(0, 2, 1));
    r.row(1, 1, 0, 0);
    Checks.due("0 or below", 0, r.array(1, 1, 2));
    r.row(2, 2, 0, 1);
    Checks.due("a length of at most 1", 0, r.array(2, 1, 2));
    r.row(3, 2, -1, 1);
    Checks.due("below by 1 at most", 0, r.array(3, 1, 2));
    Checks.due("no kept row came", 1, r.told(4));
    LinearRows three = new LinearRows(3);
    three.row(0, -2, -1, 0);
    three.row(0, 2, -3, -1);
    Checks.due("0 or above with another name alone", 0, three.array(0, 2, 3));
    three.row(0, 1, 0, 0);
    Checks.due("0 or above by another name", 1, three.array(0, 2, 3));
  }

  private static void arrayOfEmpty() {
    Checks.of("Promise 21: (EMPTY: 1)");
    LinearRows r = four();
    Checks.due("an empty one", 1, r.array(2, 1, 2));
    Checks.due("an empty one, turned", 1, r.array(2, 2, 1));
    r.row(0, 1, 0, -1);
    Checks.due("one that became empty", 1, r.array(0, 1, 2));
  }

  private static void arrayOfTheSame() {
    Checks.of("Promise 21: IndexOutOfBoundsException: also when both are the same");
    LinearRows r = four();
    for (int name = 1; name <= 2; name++) {
      int both = name;
      Checks.dueThrow("one with rows", INDEX, () -> r.array(0, both, both));
      Checks.dueThrow("an empty one", INDEX, () -> r.array(2, both, both));
      Checks.dueThrow("all points", INDEX, () -> r.array(3, both, both));
    }
    LinearRows one = new LinearRows(1);
    Checks.dueThrow("of one name", INDEX, () -> one.array(0, 1, 1));
    Checks.dueThrow("of one name", INDEX, () -> one.array(0, 1, 2));
  }

  private static void toldNames() {
    Checks.of("Promise 22: How many: NAMES (what = 0)");
    LinearRows r = new LinearRows(3);
    Checks.due("at first", 3, r.told(0));
    makeEmpty(r, 0);
    r.forget(1, 3);
    Checks.due("later", 3, r.told(0));
  }

  private static void toldKeptRows() {
    Checks.of("Promise 22: How many: KEPT ROWS of SHAPE 0 .. 7 (1 + s)");
    LinearRows r = new LinearRows(2);
    r.row(0, 1, 0, 0);
    r.row(7, 1, 0, 0);
    r.row(7, 1, -2, 0);
    Checks.due("of the first one", 1, r.told(1));
    Checks.due("of the last one", 2, r.told(8));
    for (int s = 1; s < 7; s++) {
      Checks.due("of another one", 0, r.told(1 + s));
    }
    makeEmpty(r, 7);
    Checks.due("of an empty one", 0, r.told(8));
    Checks.due("all that there can be", 50, TermsEdgesTest.full(5, 10, 19).told(1));
  }

  private static void toldEmptyShapes() {
    Checks.of("Promise 22: How many: SHAPES that are EMPTY (9)");
    LinearRows r = new LinearRows(2);
    Checks.due("none", 0, r.told(9));
    for (int s = 0; s < 8; s++) {
      makeEmpty(r, s);
      Checks.due("up to " + s, s + 1, r.told(9));
    }
    makeEmpty(r, 3);
    Checks.due("all, one of them twice", 8, r.told(9));
    r.all(0);
    r.widen(7, 7, 0);
    Checks.due("two are no more", 6, r.told(9));
  }

  private static void toldAnotherWhat() {
    Checks.of("Promise 22: IndexOutOfBoundsException: another what");
    LinearRows r = new LinearRows(2);
    for (int what : new int[] {-1, 10, 11, Integer.MIN_VALUE, Integer.MAX_VALUE}) {
      Checks.dueThrow("told(" + what + ")", INDEX, () -> r.told(what));
    }
    Checks.due("the last what", 0, r.told(9));
  }
}
