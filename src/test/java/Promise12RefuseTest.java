public final class Promise12RefuseTest {
  public static void main(String[] args) {
    retries();
    triesEndWhenItIsOff();
    hidden();
    wrongCalls();
    full();
    powerFails();
    eachRetries();
    justSoMuchRoom();
    refusedChangesNothing();
    Due.end();
  }

  private static void retries() {
    EventVault vault = Vaults.with(0, 1, 2);
    vault.group(0, 0, 0, 2);
    int bytes = vault.told(4);
    for (int tries = 1; tries <= 2; tries++) {
      Due.is("take", 0, () -> vault.take(0));
      Due.is("not parked", 0, () -> vault.refuse(0, 0));
      Due.is("not out", 0, () -> vault.told(300));
    }
    Due.is("no record", bytes, () -> vault.told(4));
    Due.is("the third time", 0, () -> vault.take(0));
    Due.is("parked", 1, () -> vault.refuse(0, 0));
    Due.is("bytes", bytes + 24, () -> vault.told(4));
    Due.is("one is parked", 1, () -> vault.told(500));
    Due.is("it comes no more", 1, () -> vault.take(0));
    vault.reopen();
    Due.is("it lasts", 1, () -> vault.told(500));
  }

  private static void triesEndWhenItIsOff() {
    EventVault vault = Vaults.with(0, 1);
    vault.group(0, 0, 0, 1);
    vault.take(0);
    vault.refuse(0, 0);
    vault.reopen();
    vault.take(0);
    Due.is("one try again", 0, () -> vault.refuse(0, 0));
    vault.take(0);
    Due.is("and another", 1, () -> vault.refuse(0, 0));
  }

  private static void hidden() {
    EventVault vault = Vaults.with(0, 1, 2);
    vault.group(0, 0, 0, 0);
    vault.take(0);
    vault.settings(0, 0, 0, 1);
    Due.is("a hidden one parks too", 1, () -> vault.refuse(0, 0));
    Due.is("of visible ones", 0, () -> vault.told(500));
  }

  private static void wrongCalls() {
    EventVault vault = Vaults.with(0, 1);
    vault.group(0, 0, 0, 0);
    Due.missing("not out", () -> vault.refuse(0, 0));
    Due.missing("not made", () -> vault.refuse(1, 0));
    Due.missing("group -1", () -> vault.refuse(-1, 0));
    Due.missing("group 8", () -> vault.refuse(8, 0));
    Due.missing("position -1", () -> vault.refuse(0, -1));
    Due.missing("position 2500", () -> vault.refuse(0, 2500));
    Vaults.turnOff(vault);
    Due.badState("off", () -> vault.refuse(0, 0));
    Due.badState("off, and no such group", () -> vault.refuse(8, 0));
  }

  private static void full() {
    EventVault vault = Vaults.with(0, 1, 2);
    vault.group(0, 0, 0, 0);
    vault.group(1, 0, 0, 1);
    vault.take(0);
    vault.take(1);
    Vaults.fillUp(vault, 16);
    Due.is("no record needs no room", 0, () -> vault.refuse(1, 0));
    Due.badState("the disk is full", () -> vault.refuse(0, 0));
    Due.is("it is out still", 1, () -> vault.told(300));
    EventVault fits = Vaults.with(0, 1);
    fits.group(0, 0, 0, 0);
    fits.take(0);
    Vaults.fillUp(fits, 24);
    Due.is("just so much room", 1, () -> fits.refuse(0, 0));
  }

  private static void powerFails() {
    EventVault vault = Vaults.with(0, 1);
    vault.group(0, 0, 0, 0);
    vault.group(1, 0, 0, 9);
    vault.take(0);
    vault.take(1);
    vault.power(23);
    Due.is("no record, no failure", 0, () -> vault.refuse(1, 0));
    Due.powerFails("a byte too few", () -> vault.refuse(0, 0));
    vault.reopen();
    Due.is("not parked", 0, () -> vault.told(500));
    vault.take(0);
    vault.power(24);
    Due.powerFails("all bytes", () -> vault.refuse(0, 0));
    vault.reopen();
    Due.is("parked", 1, () -> vault.told(500));
  }

  /** RETRIES 0 to 9: it is parked as it was given once more than that. */
  private static void eachRetries() {
    for (int retries = 0; retries <= 9; retries++) {
      EventVault vault = Vaults.with(0, 1);
      vault.group(7, 0, 0, retries);
      int bytes = vault.told(4);
      for (int tries = 1; tries <= retries; tries++) {
        vault.take(7);
        Due.is("try " + tries + " of retries " + retries, 0, () -> vault.refuse(7, 0));
      }
      Due.is("no record at retries " + retries, bytes, () -> vault.told(4));
      vault.take(7);
      Due.is("the last of retries " + retries, 1, () -> vault.refuse(7, 0));
      Due.is("bytes at retries " + retries, bytes + 24, () -> vault.told(4));
      Due.missing("not out at retries " + retries, vault, () -> vault.refuse(7, 0));
      Due.is("parked at retries " + retries, 1, () -> vault.told(507));
      Due.is("not done at retries " + retries, 0, () -> vault.told(407));
    }
    EventVault ticked = Vaults.with(0, 1);
    ticked.group(0, 0, 0, 1);
    ticked.take(0);
    ticked.tick(8);
    ticked.take(0);
    Due.is("a try whose time came is one, too", 1, () -> ticked.refuse(0, 0));
    EventVault two = Vaults.with(0, 1, 2);
    two.group(0, 0, 0, 1);
    two.take(0);
    two.take(0);
    Due.is("each event has its own tries", 0, () -> two.refuse(0, 1));
  }

  private static void justSoMuchRoom() {
    EventVault fits = Vaults.busyAndFull(24);
    Due.is("room for one that parks", 1, () -> fits.refuse(0, 3));
    Due.is("none is left", 0, () -> Vaults.free(fits));
    Due.badState("no room for one more", fits, () -> fits.refuse(0, 4));
    Due.is("one that does not park needs none", 0, () -> fits.refuse(7, 2));
    EventVault full = Vaults.busyAndFull(16);
    full.power(0);
    Due.badState("no room, so power does not fail", full, () -> full.refuse(0, 3));
    Due.missing("not out, and no room", full, () -> full.refuse(0, 2));
    full.power(-1);
    full.scavenge();
    Due.is("it was out all the time", 1, () -> full.refuse(0, 3));
  }

  private static void refusedChangesNothing() {
    EventVault vault = Vaults.busy();
    int[] noGroups = {-1, 1, 8, Integer.MIN_VALUE, Integer.MAX_VALUE};
    for (int g : noGroups) {
      Due.missing("group " + g, vault, () -> vault.refuse(g, 3));
    }
    int[] notOut = {Integer.MIN_VALUE, -1, 0, 1, 2, 5, vault.told(2), 2499, 2500, Integer.MAX_VALUE};
    for (int position : notOut) {
      Due.missing("position " + position, vault, () -> vault.refuse(0, position));
    }
    Due.missing("out for another group", vault, () -> vault.refuse(7, 3));
    EventVault off = Vaults.busyAndOff();
    Due.badState("off", off, () -> off.refuse(0, 3));
    Due.badState("off, and not out", off, () -> off.refuse(0, -1));
  }
}
