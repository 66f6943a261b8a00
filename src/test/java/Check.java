/** Compares answers with those that are due, and counts the wrong ones. */
final class Check {
  private static int wrong = 0;

  private Check() {}

  /** A call that may throw. */
  interface Call {
    long answer();
  }

  static void due(String what, long got, long want) {
    if (got != want) {
      report(what + " answered " + got + ", due is " + want);
    }
  }

  static void due(String what, double got, double want) {
    if (got != want) {
      report(what + " answered " + got + ", due is " + want);
    }
  }

  static void due(String what, String got, String want) {
    if (!got.equals(want)) {
      report(what + " answered " + got + ", due is " + want);
    }
  }

  /** The call has to throw just this exception, and to leave the object as it was. */
  static void index(String what, FloodFerry ferry, Call call) {
    refused(what, ferry, call, IndexOutOfBoundsException.class);
  }

  static void argument(String what, FloodFerry ferry, Call call) {
    refused(what, ferry, call, IllegalArgumentException.class);
  }

  static void state(String what, FloodFerry ferry, Call call) {
    refused(what, ferry, call, IllegalStateException.class);
  }

  private static void refused(String what, FloodFerry ferry, Call call, Class<?> want) {
    long before = ferry.digest();
    Class<?> got = null;
    try {
      call.answer();
    } catch (RuntimeException e) {
      got = e.getClass();
    }
    if (got != want) {
      report(what + " threw " + got + ", due is " + want);
    }
    due(what + " changes nothing: digest()", ferry.digest(), before);
  }

  private static void report(String text) {
    wrong++;
    System.out.println(text);
  }

  static void end() {
    if (wrong != 0) {
      System.out.println(wrong + " answers are not as due");
      System.exit(1);
    }
  }
}
