/** Counts what was as due and prints what was not. */
final class Checks {
  private static int passed = 0;
  private static int failed = 0;

  private Checks() {}

  static void due(String what, long got, long due) {
    note(got == due, what + " answered " + got + ", due is " + due);
  }

  static void due(String what, boolean got, boolean due) {
    note(got == due, what + " answered " + got + ", due is " + due);
  }

  static void due(String what, String got, String due) {
    note(got.equals(due), what + " answered " + got + ", due is " + due);
  }

  static void bounds(String what, Runnable call) {
    due(what, thrownBy(call), "IndexOutOfBoundsException");
  }

  static void argument(String what, Runnable call) {
    due(what, thrownBy(call), "IllegalArgumentException");
  }

  static void state(String what, Runnable call) {
    due(what, thrownBy(call), "IllegalStateException");
  }

  static void missing(String what, Runnable call) {
    due(what, thrownBy(call), "NoSuchElementException");
  }

  /** The name of the very class of what a call throws, not that of a class above it. */
  static String thrownBy(Runnable call) {
    try {
      call.run();
      return "no exception";
    } catch (RuntimeException e) {
      return e.getClass().getSimpleName();
    }
  }

  /** Prints the closing line and ends the program. */
  static void close() {
    System.out.println("checks: " + passed + " passed, " + failed + " failed");
    System.exit(failed == 0 && passed > 0 ? 0 : 1);
  }

  private static void note(boolean right, String text) {
    if (right) {
      passed++;
      return;
    }
    failed++;
    if (failed <= 50) {
      System.out.println(text);
    }
  }
}
