/** All that can be asked of an object without changing it, a line each. */
final class Seen {
  private static final int[] QUESTIONS = {8, 40, 40, 8, 8, 8, 8, 8};

  private final EventVault vault;
  private final StringBuilder lines = new StringBuilder();

  private Seen(EventVault vault) {
    this.vault = vault;
  }

  static String of(EventVault vault) {
    Seen seen = new Seen(vault);
    seen.askTold();
    seen.askEvents();
    seen.askVariables();
    return seen.lines.toString();
  }

  /** What differs first, as a row that a test may print; "nothing" if all is the same. */
  static String difference(String before, String after) {
    String[] olds = before.split("\n");
    String[] news = after.split("\n");
    for (int i = 0; i < olds.length || i < news.length; i++) {
      String was = i < olds.length ? olds[i] : "no more";
      String is = i < news.length ? news[i] : "no more";
      if (!was.equals(is)) {
        return was + ", then " + is;
      }
    }
    return "nothing";
  }

  private void askTold() {
    for (int hundreds = 0; hundreds < QUESTIONS.length; hundreds++) {
      for (int which = 0; which < QUESTIONS[hundreds]; which++) {
        int what = 100 * hundreds + which;
        ask("told(" + what + ")", () -> vault.told(what));
      }
    }
    ask("check()", vault::check);
  }

  private void askEvents() {
    int count = vault.told(2);
    for (int position = 0; position < count; position++) {
      int at = position;
      ask("read(-1, " + at + ", 0, false)", () -> vault.read(-1, at, 0, false));
      for (int asked = 0; asked < 6; asked++) {
        int what = asked;
        ask("event(" + at + ", " + what + ")", () -> vault.event(at, what));
      }
    }
  }

  private void askVariables() {
    for (int made = 0; made < 8; made++) {
      int p = made;
      for (int place = 0; place < 128 && vault.told(600 + p) >= 0; place++) {
        int stream = place / 4;
        int v = place % 4;
        ask("variable(" + p + ", " + stream + ", " + v + ")", () -> vault.variable(p, stream, v));
      }
    }
  }

  private void ask(String what, Due.Call call) {
    lines.append(what).append(": ").append(Due.told(call)).append('\n');
  }
}
