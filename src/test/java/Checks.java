/** Counts answers that are not as due; each test is its own program, so one count is enough. */
final class Checks {
  interface Call {
    long answer();
  }

  interface Deed {
    void go();
  }

  private static final int MOST_PRINTED = 40;

  private static int wrong = 0;
  private static String sentence = "";

  private Checks() {
  }

  /** Which words of the document the checks from here on stand for: a fault is told with them. */
  static void of(String words) {
    sentence = "[" + words + "] ";
  }

  static void due(String call, long want, long got) {
    if (got != want) {
      report(call + " answered " + got + ", due is " + want);
    }
  }

  static void due(String call, boolean want, boolean got) {
    due(call, want ? 1 : 0, got ? 1 : 0);
  }

  static void dueThrow(String call, Class<? extends RuntimeException> want, Deed deed) {
    try {
      deed.go();
    } catch (RuntimeException e) {
      if (e.getClass() != want) {
        report(call + " threw " + e + ", due is " + want.getName());
      }
      return;
    }
    report(call + " threw nothing, due is " + want.getName());
  }

  /** What a call answers as a text, its exception's name if it throws. */
  static String told(Call call) {
    try {
      return Long.toString(call.answer());
    } catch (RuntimeException e) {
      return "throws." + e.getClass().getSimpleName();
    }
  }

  static void report(String fault) {
    wrong++;
    if (wrong <= MOST_PRINTED) {
      System.out.println(sentence + fault);
    }
  }

  static boolean anyWrong() {
    return wrong != 0;
  }

  /** Each test of its own: one that breaks off is a fault, and the others go on. */
  static void each(Deed... tests) {
    for (Deed test : tests) {
      sentence = "";
      try {
        test.go();
      } catch (RuntimeException e) {
        report("broke off with " + e + " at " + e.getStackTrace()[0]);
      }
    }
    end();
  }

  static void end() {
    System.out.println(wrong == 0 ? "all answers are as due" : wrong + " answers are not as due");
    if (wrong != 0) {
      System.exit(1);
    }
  }
}
