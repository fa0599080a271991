public final class Promise16VariableTest {
  public static void main(String[] args) {
    EventVault vault = Vaults.with(31, 1);
    Vaults.project(vault, 7, 1, 0, 6, 3, 0, -5, 6, 0);
    Due.is("0 at first", 0, () -> vault.variable(7, 31, 3));
    vault.step(7);
    Due.is("the last of the last", 10, () -> vault.variable(7, 31, 3));
    Due.is("the first of the last", -5, () -> vault.variable(7, 31, 0));
    Due.is("one that was not put", 0, () -> vault.variable(7, 31, 1));
    Due.is("another stream's", 0, () -> vault.variable(7, 0, 3));
    Due.missing("not made", () -> vault.variable(0, 0, 0));
    Due.missing("projection -1", () -> vault.variable(-1, 0, 0));
    Due.missing("projection 8", () -> vault.variable(8, 0, 0));
    Due.missing("not made, and no such variable", () -> vault.variable(0, 0, 4));
    Due.badArgument("stream -1", () -> vault.variable(7, -1, 0));
    Due.badArgument("stream 32", () -> vault.variable(7, 32, 0));
    Due.badArgument("variable -1", () -> vault.variable(7, 0, -1));
    Due.badArgument("variable 4", () -> vault.variable(7, 0, 4));
    Vaults.turnOff(vault);
    Due.badState("off", () -> vault.variable(7, 31, 3));
    Due.badState("off, and no such projection", () -> vault.variable(8, 31, 3));
    vault.reopen();
    Due.is("it lasts", 10, () -> vault.variable(7, 31, 3));
    each();
    allTogether();
    refusedChangesNothing();
    Due.end();
  }

  /** Each of the four, of each of the first and the last streams, by a value of its own. */
  private static void each() {
    EventVault vault = new EventVault();
    int[] streams = {0, 1, 30, 31};
    for (int stream : streams) {
      vault.draft(1, 0, stream == 31 ? Long.MIN_VALUE : 100 * stream);
      vault.append(stream, -1);
    }
    Vaults.project(vault, 0, 1, 0, 6, 0, 1, 0, 0, 1, 7, 0, 6, 1, 1, 0, 0, 2, 7, 0, 6, 2, 1, 0, 0, 3, 7, 0, 6, 3);
    for (int i = 0; i < 4; i++) {
      vault.step(0);
    }
    for (int asked = 0; asked < 32; asked++) {
      int stream = asked;
      boolean worked = stream < 2 || stream > 29;
      long first = stream == 31 ? Long.MIN_VALUE : 100 * stream;
      for (int place = 0; place < 4; place++) {
        int v = place;
        Due.is("variable " + v + " of " + stream, worked ? first + v : 0, () -> vault.variable(0, stream, v));
      }
    }
  }

  private static void allTogether() {
    EventVault vault = Vaults.with(31, 1);
    Vaults.code(vault, 1, 0, 6, 3);
    vault.projection(0, -1, -1, true);
    vault.step(0);
    Due.is("those of stream 0", 10, () -> vault.variable(0, 0, 3));
    for (int asked = 1; asked < 32; asked++) {
      int stream = asked;
      Due.is("of others 0, " + stream, 0, () -> vault.variable(0, stream, 3));
    }
  }

  private static void refusedChangesNothing() {
    EventVault vault = Vaults.busy();
    int[] notMade = {-1, 1, 8, Integer.MIN_VALUE, Integer.MAX_VALUE};
    for (int p : notMade) {
      Due.missing("projection " + p, vault, () -> vault.variable(p, 0, 0));
    }
    int[] noStreams = {-1, 32, 39, Integer.MIN_VALUE, Integer.MAX_VALUE};
    for (int stream : noStreams) {
      Due.badArgument("stream " + stream, vault, () -> vault.variable(0, stream, 0));
    }
    int[] noVariables = {-1, 4, Integer.MIN_VALUE, Integer.MAX_VALUE};
    for (int v : noVariables) {
      Due.badArgument("variable " + v, vault, () -> vault.variable(0, 31, v));
    }
    Due.is("of a broken one", 0, () -> vault.variable(6, 0, 0));
    EventVault off = Vaults.busyAndOff();
    Due.badState("off", off, () -> off.variable(0, 0, 3));
    Due.badState("off, and variable 4", off, () -> off.variable(0, 0, 4));
  }
}
