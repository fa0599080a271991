public final class Promise12RefuseTest {
  public static void main(String[] args) {
    retries();
    triesEndWhenItIsOff();
    hidden();
    wrongCalls();
    full();
    powerFails();
    Due.end();
  }

  private static void retries() {
    EventVault vault = Vaults.with(0, 1, 2);
    vault.group(0, 0, 0, 2);
    int bytes = vault.told(4);
    for (int tries = 1; tries <= 2; tries++) {
      Due.is("take", 0, () -> vault.take(0));
      Due.is("not parked", 0, () -> vault.refuse(0, 0));
      Due.is("not out", 0, () -> vault.told(300));
    }
    Due.is("no record", bytes, () -> vault.told(4));
    Due.is("the third time", 0, () -> vault.take(0));
    Due.is("parked", 1, () -> vault.refuse(0, 0));
    Due.is("bytes", bytes + 24, () -> vault.told(4));
    Due.is("one is parked", 1, () -> vault.told(500));
    Due.is("it comes no more", 1, () -> vault.take(0));
    vault.reopen();
    Due.is("it lasts", 1, () -> vault.told(500));
  }

  private static void triesEndWhenItIsOff() {
    EventVault vault = Vaults.with(0, 1);
    vault.group(0, 0, 0, 1);
    vault.take(0);
    vault.refuse(0, 0);
    vault.reopen();
    vault.take(0);
    Due.is("one try again", 0, () -> vault.refuse(0, 0));
    vault.take(0);
    Due.is("and another", 1, () -> vault.refuse(0, 0));
  }

  private static void hidden() {
    EventVault vault = Vaults.with(0, 1, 2);
    vault.group(0, 0, 0, 0);
    vault.take(0);
    vault.settings(0, 0, 0, 1);
    Due.is("a hidden one parks too", 1, () -> vault.refuse(0, 0));
    Due.is("of visible ones", 0, () -> vault.told(500));
  }

  private static void wrongCalls() {
    EventVault vault = Vaults.with(0, 1);
    vault.group(0, 0, 0, 0);
    Due.missing("not out", () -> vault.refuse(0, 0));
    Due.missing("not made", () -> vault.refuse(1, 0));
    Due.missing("group -1", () -> vault.refuse(-1, 0));
    Due.missing("group 8", () -> vault.refuse(8, 0));
    Due.missing("position -1", () -> vault.refuse(0, -1));
    Due.missing("position 2500", () -> vault.refuse(0, 2500));
    Vaults.turnOff(vault);
    Due.badState("off", () -> vault.refuse(0, 0));
    Due.badState("off, and no such group", () -> vault.refuse(8, 0));
  }

  private static void full() {
    EventVault vault = Vaults.with(0, 1, 2);
    vault.group(0, 0, 0, 0);
    vault.group(1, 0, 0, 1);
    vault.take(0);
    vault.take(1);
    Vaults.fillUp(vault, 16);
    Due.is("no record needs no room", 0, () -> vault.refuse(1, 0));
    Due.badState("the disk is full", () -> vault.refuse(0, 0));
    Due.is("it is out still", 1, () -> vault.told(300));
    EventVault fits = Vaults.with(0, 1);
    fits.group(0, 0, 0, 0);
    fits.take(0);
    Vaults.fillUp(fits, 24);
    Due.is("just so much room", 1, () -> fits.refuse(0, 0));
  }

  private static void powerFails() {
    EventVault vault = Vaults.with(0, 1);
    vault.group(0, 0, 0, 0);
    vault.group(1, 0, 0, 9);
    vault.take(0);
    vault.take(1);
    vault.power(23);
    Due.is("no record, no failure", 0, () -> vault.refuse(1, 0));
    Due.powerFails("a byte too few", () -> vault.refuse(0, 0));
    vault.reopen();
    Due.is("not parked", 0, () -> vault.told(500));
    vault.take(0);
    vault.power(24);
    Due.powerFails("all bytes", () -> vault.refuse(0, 0));
    vault.reopen();
    Due.is("parked", 1, () -> vault.told(500));
  }
}
