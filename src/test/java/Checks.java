/** Counts and prints the answers that are not as due; a test ends with {@link #end}. */
final class Checks {
  interface Call {
    long answer();
  }

  private int made = 0;
  private int wrong = 0;

  void due(String call, long due, Call made) {
    same(call, String.valueOf(due), outcome(made));
  }

  void dueThrow(String call, Class<? extends RuntimeException> due, Call made) {
    same(call, "throws " + due.getName(), outcome(made));
  }

  void same(String what, String due, String got) {
    made++;
    if (!due.equals(got)) {
      wrong++;
      System.out.println(what + " answered " + got + ", due is " + due);
    }
  }

  boolean allAsDue() {
    return wrong == 0;
  }

  void end() {
    System.out.println(made + " checks, " + wrong + " not as due");
    if (wrong != 0 || made == 0) {
      System.exit(1);
    }
  }

  static String outcome(Call call) {
    try {
      return String.valueOf(call.answer());
    } catch (RuntimeException e) {
      return "throws " + e.getClass().getName();
    }
  }
}
