public final class Promise11AcknowledgeTest {
  public static void main(String[] args) {
    EventVault vault = Vaults.with(0, 1, 2, 3);
    vault.group(0, -1, 0, 0);
    vault.group(1, -1, 0, 0);
    vault.take(0);
    vault.take(0);
    vault.take(0);
    int before = vault.told(4);
    Due.is("two are out then", 2, () -> vault.acknowledge(0, 1));
    Due.is("bytes", before + 32, () -> vault.told(4));
    Due.is("one is done", 1, () -> vault.told(400));
    Due.missing("done already", () -> vault.acknowledge(0, 1));
    Due.missing("not out for the other group", () -> vault.acknowledge(1, 0));
    Due.missing("a group that was not made", () -> vault.acknowledge(2, 0));
    Due.missing("group -1", () -> vault.acknowledge(-1, 0));
    Due.missing("group 8", () -> vault.acknowledge(8, 0));
    Due.missing("position -1", () -> vault.acknowledge(0, -1));
    Due.missing("position 3", () -> vault.acknowledge(0, 3));
    Due.missing("the highest position", () -> vault.acknowledge(0, Integer.MAX_VALUE));
    vault.settings(0, 0, 0, 1);
    Due.is("a hidden one", 1, () -> vault.acknowledge(0, 0));
    Due.is("of visible ones", 1, () -> vault.told(400));
    vault.reopen();
    Due.is("it lasts", 1, () -> vault.told(400));
    Due.missing("not out any more", () -> vault.acknowledge(0, 2));
    Due.is("done ones do not come again", 2, () -> vault.take(0));
    Due.is("none is out then", 0, () -> vault.acknowledge(0, 2));
    Vaults.turnOff(vault);
    Due.badState("off", () -> vault.acknowledge(0, 2));
    Due.badState("off, and no such group", () -> vault.acknowledge(8, 0));
    timeIsCome();
    full();
    powerFails();
    Due.end();
  }

  private static void timeIsCome() {
    EventVault vault = Vaults.with(0, 1);
    vault.group(0, -1, 0, 9);
    vault.take(0);
    vault.tick(7);
    vault.tick(1);
    Due.missing("too late", () -> vault.acknowledge(0, 0));
  }

  private static void full() {
    EventVault vault = Vaults.with(0, 1);
    vault.group(0, 0, 0, 0);
    vault.take(0);
    Vaults.fillUp(vault, 24);
    Due.missing("not out, and the disk is full", () -> vault.acknowledge(0, 1));
    Due.badState("the disk is full", () -> vault.acknowledge(0, 0));
    Due.is("it is out still", 1, () -> vault.told(300));
    Due.is("not done", 0, () -> vault.told(400));
  }

  private static void powerFails() {
    EventVault vault = Vaults.with(0, 1);
    vault.group(0, 0, 0, 0);
    vault.take(0);
    vault.power(31);
    Due.powerFails("a byte too few", () -> vault.acknowledge(0, 0));
    vault.reopen();
    Due.is("not done", 0, () -> vault.told(400));
    vault.take(0);
    vault.power(32);
    Due.powerFails("all bytes", () -> vault.acknowledge(0, 0));
    vault.reopen();
    Due.is("done", 1, () -> vault.told(400));
  }
}
