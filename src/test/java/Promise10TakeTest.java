public final class Promise10TakeTest {
  public static void main(String[] args) {
    order();
    sixteen();
    hidden();
    wrongCalls();
    Due.end();
  }

  private static void order() {
    EventVault vault = Vaults.with(0, 1, 2);
    Vaults.append(vault, 1, 3);
    Vaults.append(vault, 0, 4);
    vault.group(0, 0, 1, 9);
    vault.group(1, -1, 0, 9);
    int bytes = vault.told(4);
    Due.is("the least position", 1, () -> vault.take(0));
    Due.is("another stream's is not wanted", 3, () -> vault.take(0));
    Due.is("none is left", -1, () -> vault.take(0));
    Due.is("another group gets it too", 0, () -> vault.take(1));
    vault.refuse(0, 1);
    Due.is("one that came back", 1, () -> vault.take(0));
    vault.acknowledge(0, 3);
    Due.is("not one that is done", -1, () -> vault.take(0));
    Vaults.append(vault, 0, 5);
    Due.is("one that came", 4, () -> vault.take(0));
    Due.is("no record but the others'", 32 + 48, () -> vault.told(4) - bytes);
    vault.reopen();
    Due.is("none is out", 0, () -> vault.told(300));
    Due.is("given again", 1, () -> vault.take(0));
  }

  private static void sixteen() {
    EventVault vault = Vaults.with(0, 1, 2, 3, 4, 5, 6, 7, 8);
    Vaults.append(vault, 0, 11, 12, 13, 14, 15, 16, 17, 18);
    Vaults.append(vault, 0, 21, 22);
    vault.group(0, -1, 0, 0);
    for (int i = 0; i < 16; i++) {
      int position = i;
      Due.is("take " + i, position, () -> vault.take(0));
    }
    Due.is("sixteen are out", -1, () -> vault.take(0));
    vault.settings(0, 0, 0, 16);
    Due.is("hidden ones count", -1, () -> vault.take(0));
    Due.is("sixteen, hidden or not", 16, () -> vault.told(300));
    vault.acknowledge(0, 3);
    Due.is("one more", 16, () -> vault.take(0));
    Due.is("no more", -1, () -> vault.take(0));
  }

  private static void hidden() {
    EventVault vault = Vaults.with(0, 1, 2, 3);
    vault.group(0, -1, 0, 9);
    vault.settings(0, 0, 0, 1);
    Due.is("the least visible", 1, () -> vault.take(0));
    vault.settings(0, 0, 0, 2);
    vault.refuse(0, 1);
    Due.is("not one that is hidden meanwhile", 2, () -> vault.take(0));
  }

  private static void wrongCalls() {
    EventVault vault = Vaults.with(0, 1);
    vault.group(3, 0, 0, 0);
    Due.missing("not made", () -> vault.take(2));
    Due.missing("group -1", () -> vault.take(-1));
    Due.missing("group 8", () -> vault.take(8));
    Vaults.turnOff(vault);
    Due.badState("off", () -> vault.take(3));
    Due.badState("off, and no such group", () -> vault.take(8));
  }
}
