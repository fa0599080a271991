public final class Promise08EventTest {
  public static void main(String[] args) {
    EventVault vault = Vaults.with(4, 1, 2);
    vault.tick(5);
    vault.draft(Integer.MIN_VALUE, 15, -7);
    vault.append(5, -1);
    long[] want = {5, 0, Integer.MIN_VALUE, 15, -7, 5};
    for (int what = 0; what < want.length; what++) {
      int asked = what;
      Due.is("what " + what, want[what], () -> vault.event(2, asked));
    }
    Due.is("number", 1, () -> vault.event(1, 1));
    Due.is("time", 0, () -> vault.event(1, 5));
    Due.badArgument("what 6", () -> vault.event(2, 6));
    Due.badArgument("what -1", () -> vault.event(2, -1));
    Due.missing("position 3", () -> vault.event(3, 0));
    Due.missing("position -1", () -> vault.event(-1, 0));
    Due.missing("the highest position", () -> vault.event(Integer.MAX_VALUE, 0));
    Due.missing("neither a position nor a question", () -> vault.event(3, 6));
    vault.settings(4, 1, 0, 0);
    Due.missing("a hidden one", () -> vault.event(0, 0));
    Due.is("a visible one", 4, () -> vault.event(1, 0));
    Vaults.turnOff(vault);
    Due.badState("off", () -> vault.event(1, 0));
    Due.badState("off, and no position", () -> vault.event(-1, 0));
    Due.badState("off, and no question", () -> vault.event(1, 6));
    Due.end();
  }
}
