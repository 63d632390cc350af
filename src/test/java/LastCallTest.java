import java.util.Set;

/** An object is used for at most 512 calls: the last one of them is answered as the first one. */
public final class LastCallTest {
  private static final int CALLS = 512;
  private static final int KINDS = 21;
  private static final long GIVEN = 1000000000L;
  private static final Set<String> THROWN_BY_CODE = Set.of("IllegalStateException", "IllegalArgumentException",
      "IndexOutOfBoundsException", "ArithmeticException", "UnsupportedOperationException", "NoSuchElementException",
      "RuntimeException");

  public static void main(String[] args) {
    Checks.of("What it is: An object is used for at most 512 calls after it has been made");
    for (int kind = 0; kind < KINDS; kind++) {
      lastOfOneKind(kind);
      lastAfterAllKinds(kind);
    }
    lastOfManySteps();
    laterCallsEnd();
    Checks.end();
  }

  /** Each kind with an answer of its own in the state that ready() makes, and so that it may come again and again. */
  private static long call(LinearRows r, int kind) {
    switch (kind) {
      case 0:
        r.all(3);
        return 0;
      case 1:
        return r.row(0, 1, 2, 9);
      case 2:
        return r.bound(0, 1, 2);
      case 3:
        return r.kept(0, 1, 2);
      case 4:
        return r.meet(4, 0, 1);
      case 5:
        return r.join(4, 0, 1);
      case 6:
        return r.widen(4, 0, 1);
      case 7:
        return r.narrow(4, 0, 2);
      case 8:
        r.copy(4, 0);
        return 0;
      case 9:
        return r.set(4, 1, 2, 1);
      case 10:
        return r.forget(4, 1);
      default:
        return callOfThePoint(r, kind);
    }
  }

  private static long callOfThePoint(LinearRows r, int kind) {
    switch (kind) {
      case 11:
        return r.within(0, 1) ? 1 : 0;
      case 12:
        return r.put(3, 8);
      case 13:
        return r.point(3);
      case 14:
        return r.has(0) ? 1 : 0;
      case 15:
        return r.sample(2) ? 1 : 0;
      case 16:
        return r.needed(0);
      case 17:
        return r.needs(1, 2);
      case 18:
        return r.fits(0, 1, 4) ? 1 : 0;
      case 19:
        return r.array(0, 1, 2);
      default:
        return r.told(9);
    }
  }

  private static final long[] DUE = {0, 1, 9, 9, 1, 1, 1, 0, 0, 1, 1, 1, 8, 8, 0, 0, 4, 6, 1, 0, 1};
  private static final int READY = 9;

  /** Name 1 at most 5, less name 1 at most 6, two rows of name 2 and one of both; shape 1: name 1 at most 7; 2: none. */
  private static LinearRows ready() {
    LinearRows r = new LinearRows(3);
    r.row(0, 1, 0, 5);
    r.row(0, -1, 0, 6);
    r.row(0, 2, 0, 5);
    r.row(0, 1, 2, 9);
    r.row(1, 1, 0, 7);
    r.row(2, 1, -1, -1);
    r.put(3, 8);
    r.put(1, 6);
    r.needed(0);
    return r;
  }

  private static void lastOfOneKind(int kind) {
    LinearRows r = ready();
    for (int k = READY; k < CALLS - 1; k++) {
      call(r, kind);
    }
    Checks.due("call " + CALLS + " of kind " + kind, DUE[kind], call(r, kind));
  }

  private static void lastAfterAllKinds(int kind) {
    LinearRows r = ready();
    for (int k = READY; k < CALLS - 1; k++) {
      call(r, k * 11 % KINDS);
    }
    Checks.due("call " + CALLS + ", of kind " + kind, DUE[kind], call(r, kind));
  }

  private static void lastOfManySteps() {
    LinearRows r = new LinearRows(1);
    r.set(0, 1, 0, 0);
    for (int k = 1; k < CALLS - 1; k++) {
      r.set(0, 1, 1, GIVEN);
    }
    Checks.due("10^9 added in each call", 510 * GIVEN, r.bound(0, 1, 0));
  }

  /** What they answer is free, a throw too; but they end, and the machine itself throws in no state. */
  private static void laterCallsEnd() {
    LinearRows r = ready();
    for (int k = 0; k < 20 * CALLS; k++) {
      int kind = k % KINDS;
      String told = Checks.told(() -> call(r, kind));
      if (told.startsWith("throws.") && !THROWN_BY_CODE.contains(told.substring("throws.".length()))) {
        Checks.report("a later call of kind " + kind + " " + told);
      }
    }
  }
}
