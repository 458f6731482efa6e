import java.util.Objects;

/** Counts answers that are not as due, and ends a test with them. */
final class Expect {
  private static int asked = 0;
  private static int wrong = 0;

  private Expect() {
  }

  /** What a call does: it answers something, or throws. */
  interface Call {
    Object make();
  }

  /** What a call does with a number. */
  interface OfNumber {
    Object make(int value);
  }

  /** What a call does with a sign. */
  interface OfSign {
    Object make(char sign);
  }

  static void same(String what, Object got, Object due) {
    asked++;
    if (!Objects.equals(got, due)) {
      wrong++;
      System.out.println(what + " answered " + got + ", due is " + due);
    }
  }

  static void yes(String what, boolean got) {
    same(what, got, true);
  }

  static void no(String what, boolean got) {
    same(what, got, false);
  }

  static void refuses(String what, Class<? extends RuntimeException> due, Call call) {
    same(what, outcome(call), due.getSimpleName());
  }

  static void answers(String what, Call call) {
    Object got = outcome(call);
    same(what + ": " + got, got instanceof String, false);
  }

  /** The least and the greatest are taken, the next ones beyond and the very far ones are not. */
  static void range(
      String what, Class<? extends RuntimeException> due, int least, int most, OfNumber call) {
    answers(what + ": the least " + least, () -> call.make(least));
    answers(what + ": the greatest " + most, () -> call.make(most));
    beyond(what, due, least, most, call);
  }

  /** The next ones beyond a range and the very far ones are refused. */
  static void beyond(
      String what, Class<? extends RuntimeException> due, int least, int most, OfNumber call) {
    for (int v : new int[] {least - 1, most + 1, Integer.MIN_VALUE, Integer.MAX_VALUE}) {
      refuses(what + ": beyond, " + v, due, () -> call.make(v));
    }
  }

  /** These signs are taken, and no others; some others differ by what a byte does not hold. */
  static void signs(
      String what, Class<? extends RuntimeException> due, String known, OfSign call) {
    for (char c = 0; c < 640; c++) {
      char sign = c;
      if (known.indexOf(sign) >= 0) {
        answers(what + ": the sign " + sign, () -> call.make(sign));
      } else {
        refuses(what + ": the sign number " + (int) sign, due, () -> call.make(sign));
      }
    }
    refuses(what + ": the last sign", due, () -> call.make(Character.MAX_VALUE));
  }

  /** The answer of a call, or the name of what it throws. */
  static Object outcome(Call call) {
    try {
      return call.make();
    } catch (RuntimeException e) {
      return e.getClass().getSimpleName();
    }
  }

  static void finish(String test) {
    System.out.println(test + ": " + asked + " asked, " + wrong + " not as due");
    if (wrong != 0 || asked == 0) {
      System.exit(1);
    }
  }
}
