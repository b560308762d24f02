/** Counts cases: a case is passed when all its answers were as due. */
final class Check {
  private static int passed = 0;
  private static int failed = 0;
  private static String name = null;
  private static int wrong = 0;

  private Check() {}

  /** Begins a case, and ends the one before. */
  static void begin(String caseName) {
    end();
    name = caseName;
    wrong = 0;
  }

  static void end() {
    if (name != null) {
      if (wrong == 0) {
        passed++;
      } else {
        failed++;
        System.out.println("failed: " + name + " (" + wrong + " wrong)");
      }
    }
    name = null;
  }

  static void due(String call, long got, long want) {
    if (got != want) {
      wrong++;
      System.out.println(name + ": " + call + " answered " + got + ", due is " + want);
    }
  }

  static void holds(String what, boolean is) {
    if (!is) {
      wrong++;
      System.out.println(name + ": " + what + " does not hold");
    }
  }

  /** Feeds a text in pieces; for texts that fit the tape. */
  static void feed(LiftSweeps x, String text) {
    for (int i = 0; i < text.length(); i += 5) {
      int[] b = new int[5];
      int n = Math.min(5, text.length() - i);
      for (int k = 0; k < n; k++) {
        b[k] = text.charAt(i + k);
      }
      due("feed of " + text, x.feed(n, b[0], b[1], b[2], b[3], b[4]), i + n);
    }
  }

  static int text(LiftSweeps x, String text) {
    feed(x, text);
    return x.text();
  }

  static int passed() {
    return passed;
  }

  static int failed() {
    return failed;
  }
}
