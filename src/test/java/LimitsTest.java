/** The limit of bounds (10^15), exactly met and passed by 1, in each call that may throw for it; and far numbers. */
public final class LimitsTest {
  private static final long ENDLESS = LinearRows.ENDLESS;
  private static final long GIVEN = 1000000000L;
  private static final long LIMIT = Far.LIMIT;
  private static final Class<ArithmeticException> ARITHMETIC = ArithmeticException.class;
  private static final int SPARE = 7;

  public static void main(String[] args) {
    Checks.each(
        LimitsTest::oneTerm,
        LimitsTest::termsOfTwoNames,
        LimitsTest::endlessIsNoLimit,
        LimitsTest::termTwiceHasNoLimit,
        LimitsTest::emptyHasNoLimit,
        LimitsTest::rowAbove,
        LimitsTest::rowBelow,
        LimitsTest::meetAboveAndBelow,
        LimitsTest::widenAboveAndBelow,
        LimitsTest::narrowAboveAndBelow,
        LimitsTest::setFromAnother,
        LimitsTest::otherCallsAtTheLimit,
        LimitsTest::fiveNamesAtTheLimit);
  }

  /** A name of the term, changed so that the term is by 1 more, or less. */
  private static long push(LinearRows r, int s, int term, int by) {
    int name = Math.abs(term);
    return r.set(s, name, name, term > 0 ? by : -by);
  }

  private static void oneTerm() {
    Checks.of("Terms: ArithmeticException: a BOUND of one TERM that is above 10^15, or below -10^15");
    for (int term : new int[] {1, -1, 2, -2, 3, -3}) {
      for (int sign = -1; sign <= 1; sign += 2) {
        int by = sign;
        LinearRows r = new LinearRows(3);
        Far.atMost(r, 0, SPARE, term, sign * LIMIT);
        Checks.due("at the limit", sign * LIMIT, r.bound(0, term, 0));
        Checks.due("one row", 1, r.told(1));
        Checks.dueThrow("passed by 1, term " + term + " " + sign, ARITHMETIC, () -> push(r, 0, term, by));
        Checks.due("nothing changed", sign * LIMIT, r.bound(0, term, 0));
        Checks.due("back by 1", 1, push(r, 0, term, -by));
        Checks.due("back by 1", sign * (LIMIT - 1), r.bound(0, term, 0));
        Checks.due("met again", 1, push(r, 0, term, by));
        Checks.dueThrow("passed far", ARITHMETIC, () -> push(r, 0, term, by * (int) GIVEN));
      }
    }
  }

  private static void termsOfTwoNames() {
    Checks.of("Terms: ArithmeticException: a BOUND of TERMS of two NAMES that is above 10^15, or below -10^15");
    for (int a : new int[] {1, -1, 2, -2}) {
      for (int b : new int[] {2, -2, 3, -3}) {
        if (Math.abs(a) == Math.abs(b)) {
          continue;
        }
        for (int sign = -1; sign <= 1; sign += 2) {
          int by = sign;
          LinearRows r = new LinearRows(3);
          Far.atMost(r, 0, SPARE, a, b, sign * LIMIT);
          Checks.due("at the limit", sign * LIMIT, r.bound(0, b, a));
          Checks.due("one row", 1, r.told(1));
          Checks.dueThrow("passed by 1, " + a + " " + b + " " + sign, ARITHMETIC, () -> push(r, 0, a, by));
          Checks.dueThrow("passed by 1, " + a + " " + b + " " + sign, ARITHMETIC, () -> push(r, 0, b, by));
          Checks.due("nothing changed", sign * LIMIT, r.bound(0, a, b));
          Checks.due("back by 1", 1, push(r, 0, b, -by));
          Checks.due("met again", 1, push(r, 0, a, by));
          Checks.due("met again", sign * LIMIT, r.kept(0, a, b));
        }
      }
    }
  }

  private static void endlessIsNoLimit() {
    Checks.of("Terms: ArithmeticException: a BOUND that is not ENDLESS");
    LinearRows r = new LinearRows(3);
    Checks.due("all bounds are endless", 1, r.set(0, 1, 1, GIVEN));
    Checks.due("all bounds are endless", 1, r.set(0, 1, -1, -GIVEN));
    Far.atMost(r, 0, SPARE, 1, LIMIT);
    Checks.due("the others stay endless", 1, r.set(0, 2, 2, GIVEN));
    Checks.due("endless", ENDLESS, r.bound(0, 1, 2));
    Checks.due("a row that bounds both at the limit", 1, r.row(0, -2, 0, 0));
    Checks.due("endless", ENDLESS, r.bound(0, -1, -2));
  }

  private static void termTwiceHasNoLimit() {
    Checks.of("Terms: ArithmeticException: a BOUND of one TERM, or of TERMS of two NAMES (of a TERM twice: none)");
    for (int sign = -1; sign <= 1; sign += 2) {
      LinearRows r = new LinearRows(3);
      Far.atMost(r, 0, SPARE, 1, sign * LIMIT);
      Checks.due("twice", 2 * sign * LIMIT, r.bound(0, 1, 1));
      Checks.due("taken in a copy", 1, r.meet(1, 0, 0));
      Checks.due("twice", 2 * sign * LIMIT, r.bound(1, 1, 1));
      Checks.due("opposite terms", 0, r.bound(1, 1, -1));
      Far.atMost(r, 2, SPARE, 1, 2, sign * LIMIT);
      Far.atMost(r, 3, SPARE, 1, -2, sign * LIMIT);
      Checks.due("half of both together", 1, r.meet(4, 2, 3));
      Checks.due("half of both together", sign * LIMIT, r.bound(4, 1, 0));
      Checks.due("both together", 2 * sign * LIMIT, r.bound(4, 1, 1));
    }
  }

  private static void emptyHasNoLimit() {
    Checks.of("Terms: ArithmeticException: a SHAPE that is not EMPTY");
    LinearRows r = new LinearRows(4);
    Far.apart(r, 0, SPARE, LIMIT);
    r.copy(1, 0);
    r.row(1, 3, -4, 0);
    r.row(1, 4, 0, 0);
    r.row(2, 2, 0, 1);
    r.copy(3, 2);
    r.row(3, -3, 0, -1);
    Checks.dueThrow("too far", ARITHMETIC, () -> r.meet(4, 1, 2));
    Checks.due("too far, but for name 3 empty", 0, r.meet(4, 1, 3));
    Checks.dueThrow("too far", ARITHMETIC, () -> r.narrow(5, 1, 2));
    r.copy(6, 0);
    r.row(6, 3, 0, GIVEN);
    r.all(5);
    r.row(5, 2, 0, 1);
    r.row(5, -4, 0, -1);
    r.row(5, 4, 3, -GIVEN);
    Checks.due("empty", 0, r.row(5, -3, 0, 0));
    Checks.due("by an empty one", 0, r.narrow(6, 6, 5));
    Checks.due("a row that contradicts is not too far", 0, r.row(1, -3, 0, -1));
    Checks.due("then no row is", 0, r.row(1, 2, 0, 1));
    Checks.due("nor a set", 0, r.set(1, 1, 1, GIVEN));
    Checks.due("no kept rows", 0, r.told(2));
  }

  private static void rowAbove() {
    Checks.of("Promise 3: row: ArithmeticException: above 10^15");
    LinearRows r = new LinearRows(3);
    Far.apart(r, 0, SPARE, LIMIT);
    Checks.dueThrow("name 1 would be passed by 1", ARITHMETIC, () -> r.row(0, 2, 0, 1));
    Checks.dueThrow("names 1 and 3 would be passed by 1", ARITHMETIC, () -> r.row(0, 2, 3, 1));
    Checks.dueThrow("names 1 and -3 would be passed far", ARITHMETIC, () -> r.row(0, 2, -3, GIVEN));
    Checks.dueThrow("twice: 1 is cut to 0, 2 is not", ARITHMETIC, () -> r.row(0, 2, 2, 2));
    Checks.due("nothing is kept of them", 1, r.told(1));
    Checks.due("nothing changed", ENDLESS, r.bound(0, 1, 0));
    r.copy(1, 0);
    Checks.due("twice: 1 is cut to 0", 1, r.row(1, 2, 2, 1));
    Checks.due("name 1 at the limit", LIMIT, r.bound(1, 1, 0));
    r.copy(1, 0);
    Checks.due("names 1 and 3 at the limit", 1, r.row(1, 2, 3, 0));
    Checks.due("names 1 and 3 at the limit", LIMIT, r.bound(1, 1, 3));
    r.copy(1, 0);
    r.row(1, 1, 0, 0);
    Checks.due("a row that bounds name 1 before", 1, r.row(1, 2, 0, 1));
    Checks.due("kept", 1, r.kept(1, 2, 0));
  }

  private static void rowBelow() {
    Checks.of("Promise 3: row: ArithmeticException: below -10^15");
    LinearRows r = new LinearRows(3);
    Far.apart(r, 0, SPARE, -LIMIT);
    Checks.dueThrow("name 1 would be passed by 1", ARITHMETIC, () -> r.row(0, 2, 0, -1));
    Checks.dueThrow("names 1 and 3 would be passed by 1", ARITHMETIC, () -> r.row(0, 2, 3, -1));
    Checks.dueThrow("less name 2 would be passed far", ARITHMETIC, () -> r.row(0, -1, 0, -GIVEN));
    Checks.due("nothing is kept of them", 1, r.told(1));
    Checks.due("nothing changed", ENDLESS, r.bound(0, 1, 0));
    r.copy(1, 0);
    Checks.due("name 1 at the limit", 1, r.row(1, 2, 0, 0));
    Checks.due("name 1 at the limit", -LIMIT, r.bound(1, 1, 0));
    r.copy(1, 0);
    Checks.due("names 1 and 3 at the limit", 1, r.row(1, 2, 3, 0));
    Checks.due("names 1 and 3 at the limit", -LIMIT, r.bound(1, 3, 1));
    r.copy(1, 0);
    Checks.due("a row of both that is above", 1, r.row(1, 1, 2, GIVEN));
    Checks.due("name 1", (GIVEN - LIMIT) / 2, r.bound(1, 1, 0));
  }

  /** Shapes 0 and 1: name 1 is at most one, name 2 is at most two. */
  private static LinearRows oneAndTwo(long one, long two) {
    LinearRows r = new LinearRows(3);
    Far.atMost(r, 0, SPARE, 1, one);
    Far.atMost(r, 1, SPARE, 2, two);
    return r;
  }

  private static void meetAboveAndBelow() {
    Checks.of("Promise 6: meet: ArithmeticException");
    for (int sign = -1; sign <= 1; sign += 2) {
      long half = sign * LIMIT / 2;
      LinearRows at = oneAndTwo(half, half);
      Checks.due("both together at the limit", 1, at.meet(2, 0, 1));
      Checks.due("both together at the limit", 2 * half, at.kept(2, 1, 2));
      LinearRows past = oneAndTwo(half, half + sign);
      past.row(2, 3, 0, 4);
      Checks.dueThrow("passed by 1", ARITHMETIC, () -> past.meet(2, 0, 1));
      Checks.dueThrow("passed by 1, turned", ARITHMETIC, () -> past.meet(0, 1, 0));
      Checks.due("nothing changed", 4, past.bound(2, 3, 0));
      Checks.due("nothing changed", half, past.bound(0, 1, 0));
      Checks.due("nothing changed", 1, past.told(1));
    }
  }

  private static void widenAboveAndBelow() {
    Checks.of("Promise 8: widen: ArithmeticException");
    long half = LIMIT / 2;
    for (int more = 0; more <= 1; more++) {
      LinearRows r = oneAndTwo(half, half + more);
      r.row(0, 1, 2, 0);
      r.meet(0, 0, 1);
      Checks.due("three rows", 3, r.told(1));
      r.set(3, 1, 0, 1);
      r.set(3, 2, 0, 0);
      r.row(4, 3, 0, 4);
      if (more == 0) {
        Checks.due("both together at the limit", 1, r.widen(4, 0, 3));
        Checks.due("both together at the limit", LIMIT, r.bound(4, 1, 2));
        Checks.due("two rows are left", 2, r.told(5));
      } else {
        Checks.dueThrow("passed by 1", ARITHMETIC, () -> r.widen(4, 0, 3));
        Checks.dueThrow("passed by 1, in place", ARITHMETIC, () -> r.widen(0, 0, 3));
        Checks.due("nothing changed", 4, r.bound(4, 3, 0));
        Checks.due("nothing changed", 3, r.told(1));
        Checks.due("by an empty one it stays", 0, r.row(5, 0, 0, -1));
        Checks.due("by an empty one it stays", 1, r.widen(4, 0, 5));
      }
    }
  }

  private static void narrowAboveAndBelow() {
    Checks.of("Promise 9: narrow: ArithmeticException");
    for (int sign = -1; sign <= 1; sign += 2) {
      long half = sign * LIMIT / 2;
      LinearRows at = oneAndTwo(half, half);
      Checks.due("both together at the limit", 1, at.narrow(2, 0, 1));
      Checks.due("both together at the limit", 2 * half, at.bound(2, 1, 2));
      Checks.due("two rows", 2, at.told(3));
      LinearRows past = oneAndTwo(half, half + sign);
      past.row(2, 3, 0, 4);
      Checks.dueThrow("passed by 1", ARITHMETIC, () -> past.narrow(2, 0, 1));
      Checks.dueThrow("passed by 1, in place", ARITHMETIC, () -> past.narrow(1, 0, 1));
      Checks.due("nothing changed", 4, past.bound(2, 3, 0));
      Checks.due("nothing changed", half + sign, past.bound(1, 2, 0));
      Checks.due("nothing changed", 1, past.told(2));
    }
  }

  private static void setFromAnother() {
    Checks.of("Promise 11: set: ArithmeticException");
    for (int sign = -1; sign <= 1; sign += 2) {
      int by = sign;
      LinearRows r = new LinearRows(3);
      Far.atMost(r, 0, SPARE, 1, sign * LIMIT);
      Checks.dueThrow("both together would be twice the limit", ARITHMETIC, () -> r.set(0, 2, 1, 0));
      Checks.dueThrow("1 less 2 would be twice the limit", ARITHMETIC, () -> r.set(0, 2, -1, 0));
      Checks.due("nothing changed", ENDLESS, r.bound(0, 2, 0));
      Checks.due("a number beside it", 1, r.set(0, 2, 0, 0));
      Checks.dueThrow("another number: both are passed by 1", ARITHMETIC, () -> r.set(0, 2, 0, by));
      Checks.dueThrow("another number: 1 less 2 is passed by 1", ARITHMETIC, () -> r.set(0, 2, 0, -by));
      Far.atMost(r, 1, SPARE, 1, sign * LIMIT / 2);
      Checks.due("both together at the limit", 1, r.set(1, 2, 1, 0));
      Checks.due("both together at the limit", sign * LIMIT, r.bound(1, 2, 1));
      Checks.dueThrow("passed by 1", ARITHMETIC, () -> r.set(1, 2, 1, by));
      Checks.dueThrow("passed by 1", ARITHMETIC, () -> r.set(1, 1, 1, by));
      Checks.due("nothing changed", sign * LIMIT / 2, r.bound(1, 1, 0));
    }
  }

  private static void otherCallsAtTheLimit() {
    Checks.of("Terms: BOUNDS up to 10^15 in calls that do not throw for them");
    LinearRows r = new LinearRows(3);
    Far.atMost(r, 0, SPARE, -1, LIMIT);
    Far.atMost(r, 1, SPARE, 1, -LIMIT);
    Checks.due("one number, far below 0", 1, r.meet(2, 0, 1));
    Checks.due("join", 1, r.join(3, 2, 0));
    Checks.due("joined", LIMIT, r.kept(3, -1, 0));
    r.copy(4, 2);
    Checks.due("copied", -LIMIT, r.bound(4, 1, 0));
    Checks.due("within", true, r.within(2, 0) && !r.within(0, 2));
    Checks.due("sample", true, r.sample(2));
    Checks.due("point", -LIMIT, r.point(1));
    Checks.due("has", true, r.has(2));
    Checks.due("fits in 51 bits", true, r.fits(2, 1, 51));
    Checks.due("not in 50 bits", false, r.fits(2, 1, 50));
    Checks.due("needed", 2, r.needed(2));
    Checks.due("needed", -LIMIT, r.needs(0, 2));
    Checks.due("needed", LIMIT, r.needs(1, 2));
    Checks.due("an index far below 0", -1, r.array(2, 1, 2));
    Checks.due("a length far below 0", -1, r.array(2, 2, 1));
    Checks.due("forget", 1, r.forget(2, 1));
    Checks.due("all points", 0, r.told(3));
  }

  /** Five names at the limit, tied to one another: what is added up along all of them must not wrap. */
  private static void fiveNamesAtTheLimit() {
    Checks.of("Terms: far BOUNDS in all five NAMES");
    LinearRows r = new LinearRows(5);
    Far.atMost(r, 0, SPARE, -1, -LIMIT / 2);
    for (int name = 2; name <= 5; name++) {
      r.set(0, name, 1, 0);
    }
    Checks.due("far above 0", -LIMIT, r.bound(0, -4, -5));
    for (int s = 1; s <= 5; s++) {
      r.copy(s, 0);
      r.set(s, s, -s, 0);
    }
    Checks.due("1 is never both", 0, r.meet(6, 0, 1));
    Checks.due("neither is 5", 0, r.meet(6, 5, 4));
    Checks.due("nor by narrowing", 0, r.narrow(6, 0, 5));
    Checks.due("sample", true, r.sample(5));
    Checks.due("1", LIMIT / 2, r.point(1));
    Checks.due("5", -LIMIT / 2, r.point(5));
    Checks.due("has", true, r.has(5));
    Checks.due("not the other", false, r.has(0));
    Checks.due("needed", 9, r.needed(0));
    Checks.due("the first one", -1, r.needs(0, 0));
    Checks.due("the first one", -LIMIT / 2, r.needs(0, 2));
  }
}
