import java.util.Objects;

/** Counts answers that are not as due, and ends a test with them. */
final class Expect {
  private static int asked = 0;
  private static int wrong = 0;

  private Expect() {
  }

  /** What a call does: it answers something, or throws. */
  interface Call {
    Object make();
  }

  static void same(String what, Object got, Object due) {
    asked++;
    if (!Objects.equals(got, due)) {
      wrong++;
      System.out.println(what + " answered " + got + ", due is " + due);
    }
  }

  static void yes(String what, boolean got) {
    same(what, got, true);
  }

  static void no(String what, boolean got) {
    same(what, got, false);
  }

  static void refuses(String what, Class<? extends RuntimeException> due, Call call) {
    same(what, outcome(call), due.getSimpleName());
  }

  /** The answer of a call, or the name of what it throws. */
  static Object outcome(Call call) {
    try {
      return call.make();
    } catch (RuntimeException e) {
      return e.getClass().getSimpleName();
    }
  }

  static void finish(String test) {
    System.out.println(test + ": " + asked + " asked, " + wrong + " not as due");
    if (wrong != 0 || asked == 0) {
      System.exit(1);
    }
  }
}
