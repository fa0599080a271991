public final class Promise02DraftTest {
  public static void main(String[] args) {
    EventVault vault = new EventVault();
    Due.badArgument("type -1", () -> vault.draft(1, -1, 0));
    Due.badArgument("type 16", () -> vault.draft(1, 16, 0));
    Due.badArgument("the least type", () -> vault.draft(1, Integer.MIN_VALUE, 0));
    Due.is("none was drafted", 0, () -> vault.told(5));
    for (int i = 1; i <= 8; i++) {
      int count = i;
      Due.is("draft " + i, i, () -> vault.draft(-count, count == 8 ? 15 : count - 1, Long.MIN_VALUE + count));
    }
    Due.badState("a ninth one", () -> vault.draft(9, 0, 0));
    Due.badArgument("a ninth one of no type", () -> vault.draft(9, 16, 0));
    Due.is("eight were drafted", 8, () -> vault.told(5));
    Due.is("no record yet", 0, () -> vault.told(7));
    Due.is("append", 0, () -> vault.append(3, -1));
    Due.is("id", -1, () -> vault.event(0, 2));
    Due.is("type", 15, () -> vault.event(7, 3));
    Due.is("data", Long.MIN_VALUE + 8, () -> vault.event(7, 4));
    Due.is("one more behind", 1, () -> vault.draft(9, 0, 0));
    whileOff();
    Due.end();
  }

  private static void whileOff() {
    EventVault vault = new EventVault();
    vault.draft(1, 0, 0);
    Vaults.turnOff(vault);
    Due.is("empty as it is off", 0, () -> vault.told(5));
    Due.is("draft while off", 1, () -> vault.draft(1, 0, 0));
    Due.is("one while off", 1, () -> vault.told(5));
    vault.reopen();
    Due.is("empty by reopen", 0, () -> vault.told(5));
  }
}
