import java.util.NoSuchElementException;

/** What the tests share: a call's answer, or what it throws, against the one that is due. */
final class Due {
  interface Call {
    long answer();
  }

  interface Deed {
    void happen();
  }

  private static int wrong = 0;

  private Due() {
  }

  static void is(String what, long want, Call call) {
    same(what, Long.toString(want), told(call));
  }

  static void same(String what, String want, String got) {
    if (!want.equals(got)) {
      wrong++;
      System.out.println(what + " answered " + got + ", due is " + want);
    }
  }

  /** IllegalArgumentException is due. */
  static void badArgument(String what, Call call) {
    same(what, "throws.IllegalArgumentException", told(call));
  }

  /** IllegalStateException is due. */
  static void badState(String what, Call call) {
    same(what, "throws.IllegalStateException", told(call));
  }

  /** NoSuchElementException is due. */
  static void missing(String what, Call call) {
    same(what, "throws.NoSuchElementException", told(call));
  }

  /** ArithmeticException is due. */
  static void powerFails(String what, Call call) {
    same(what, "throws.ArithmeticException", told(call));
  }

  static String told(Call call) {
    try {
      return Long.toString(call.answer());
    } catch (NoSuchElementException e) {
      return "throws.NoSuchElementException";
    } catch (RuntimeException e) {
      return "throws." + e.getClass().getSimpleName();
    }
  }

  static Call call(Deed deed) {
    return () -> {
      deed.happen();
      return 0;
    };
  }

  static void end() {
    if (wrong != 0) {
      System.out.println(wrong + " answers are not as due");
      System.exit(1);
    }
  }
}
