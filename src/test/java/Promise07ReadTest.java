public final class Promise07ReadTest {
  public static void main(String[] args) {
    EventVault vault = Vaults.with(0, 1, 2);
    Vaults.append(vault, 1, 3);
    Vaults.append(vault, 0, 4, 5);
    Vaults.project(vault, 0, 1, 0, 18, 0);
    vault.step(0);
    oneStream(vault);
    allStreams(vault);
    hidden(vault);
    wrongCalls(vault);
    theHundredth();
    Due.end();
  }

  private static void oneStream(EventVault vault) {
    Due.is("the first", 0, () -> vault.read(0, 0, 0, false));
    Due.is("the third, behind another stream's", 3, () -> vault.read(0, 0, 2, false));
    Due.is("from number 2", 3, () -> vault.read(0, 2, 0, false));
    Due.is("below all", 0, () -> vault.read(0, Integer.MIN_VALUE, 0, false));
    Due.is("behind all", -1, () -> vault.read(0, 4, 0, false));
    Due.is("too few", -1, () -> vault.read(0, 0, 4, false));
    Due.is("back from the last", 4, () -> vault.read(0, 3, 0, true));
    Due.is("back from behind all", 4, () -> vault.read(0, Integer.MAX_VALUE, 0, true));
    Due.is("back from number 2", 1, () -> vault.read(0, 2, 1, true));
    Due.is("back to the first", 0, () -> vault.read(0, 2, 2, true));
    Due.is("back behind the first", -1, () -> vault.read(0, 2, 3, true));
    Due.is("back below all", -1, () -> vault.read(0, -1, 0, true));
    Due.is("what was emitted", 5, () -> vault.read(32, 0, 0, false));
    Due.is("nothing was", -1, () -> vault.read(39, 0, 0, true));
  }

  private static void allStreams(EventVault vault) {
    Due.is("the third", 2, () -> vault.read(-1, 0, 2, false));
    Due.is("from a position", 4, () -> vault.read(-1, 3, 1, false));
    Due.is("emitted ones too", 5, () -> vault.read(-1, 5, 0, false));
    Due.is("back", 1, () -> vault.read(-1, 3, 2, true));
    Due.is("too few back", -1, () -> vault.read(-1, 3, 4, true));
  }

  private static void hidden(EventVault vault) {
    vault.settings(0, 3, 0, 0);
    Due.is("the first visible", 1, () -> vault.read(0, 0, 0, false));
    Due.is("of all", 1, () -> vault.read(-1, 0, 0, false));
    Due.is("back to a hidden one", -1, () -> vault.read(0, 0, 0, true));
    Due.is("back past it", -1, () -> vault.read(0, 3, 3, true));
  }

  private static void wrongCalls(EventVault vault) {
    Due.badArgument("stream -2", () -> vault.read(-2, 0, 0, false));
    Due.badArgument("stream 40", () -> vault.read(40, 0, 0, false));
    Due.badArgument("i -1", () -> vault.read(0, 0, -1, false));
    Due.badArgument("i 101", () -> vault.read(0, 0, 101, true));
    EventVault off = Vaults.off();
    Due.badState("off", () -> off.read(0, 0, 0, false));
    Due.badArgument("off, and no such stream", () -> off.read(40, 0, 0, false));
  }

  private static void theHundredth() {
    EventVault vault = new EventVault();
    for (int i = 0; i < 13; i++) {
      Vaults.append(vault, 9, 8 * i, 8 * i + 1, 8 * i + 2, 8 * i + 3, 8 * i + 4, 8 * i + 5, 8 * i + 6, 8 * i + 7);
    }
    Due.is("i 100", 100, () -> vault.read(9, 0, 100, false));
    Due.is("i 100 back", 3, () -> vault.read(9, 103, 100, true));
  }
}
