import java.util.NoSuchElementException;

/** What the tests share: a call's answer, or what it throws, against the one that is due. */
final class Due {
  interface Call {
    long answer();
  }

  interface Deed {
    void happen();
  }

  private static int wrong = 0;

  private Due() {
  }

  static void is(String what, long want, Call call) {
    same(what, Long.toString(want), told(call));
  }

  static void same(String what, String want, String got) {
    if (!want.equals(got)) {
      wrong++;
      System.out.println(what + " answered " + got + ", due is " + want);
    }
  }

  /** IllegalArgumentException is due. */
  static void badArgument(String what, Call call) {
    same(what, "throws.IllegalArgumentException", told(call));
  }

  /** IllegalStateException is due. */
  static void badState(String what, Call call) {
    same(what, "throws.IllegalStateException", told(call));
  }

  /** NoSuchElementException is due. */
  static void missing(String what, Call call) {
    same(what, "throws.NoSuchElementException", told(call));
  }

  /** ArithmeticException is due. */
  static void powerFails(String what, Call call) {
    same(what, "throws.ArithmeticException", told(call));
  }

  /** IllegalArgumentException is due, and all stays as it is. */
  static void badArgument(String what, EventVault vault, Call call) {
    unchanged(what, vault, () -> badArgument(what, call));
  }

  /** IllegalStateException is due, and all stays as it is. */
  static void badState(String what, EventVault vault, Call call) {
    unchanged(what, vault, () -> badState(what, call));
  }

  /** NoSuchElementException is due, and all stays as it is. */
  static void missing(String what, EventVault vault, Call call) {
    unchanged(what, vault, () -> missing(what, call));
  }

  static void unchanged(String what, EventVault vault, Deed deed) {
    String before = Seen.of(vault);
    deed.happen();
    same("what changed by " + what, "nothing", Seen.difference(before, Seen.of(vault)));
  }

  static String told(Call call) {
    try {
      return Long.toString(call.answer());
    } catch (NoSuchElementException e) {
      return "throws.NoSuchElementException";
    } catch (RuntimeException e) {
      return "throws." + e.getClass().getSimpleName();
    }
  }

  static Call call(Deed deed) {
    return () -> {
      deed.happen();
      return 0;
    };
  }

  static void end() {
    if (wrong != 0) {
      System.out.println(wrong + " answers are not as due");
      System.exit(1);
    }
  }
}
