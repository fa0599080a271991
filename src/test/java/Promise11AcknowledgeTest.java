public final class Promise11AcknowledgeTest {
  public static void main(String[] args) {
    EventVault vault = Vaults.with(0, 1, 2, 3);
    vault.group(0, -1, 0, 0);
    vault.group(1, -1, 0, 0);
    vault.take(0);
    vault.take(0);
    vault.take(0);
    int before = vault.told(4);
    Due.is("two are out then", 2, () -> vault.acknowledge(0, 1));
    Due.is("bytes", before + 32, () -> vault.told(4));
    Due.is("one is done", 1, () -> vault.told(400));
    Due.missing("done already", () -> vault.acknowledge(0, 1));
    Due.missing("not out for the other group", () -> vault.acknowledge(1, 0));
    Due.missing("a group that was not made", () -> vault.acknowledge(2, 0));
    Due.missing("group -1", () -> vault.acknowledge(-1, 0));
    Due.missing("group 8", () -> vault.acknowledge(8, 0));
    Due.missing("position -1", () -> vault.acknowledge(0, -1));
    Due.missing("position 3", () -> vault.acknowledge(0, 3));
    Due.missing("the highest position", () -> vault.acknowledge(0, Integer.MAX_VALUE));
    vault.settings(0, 0, 0, 1);
    Due.is("a hidden one", 1, () -> vault.acknowledge(0, 0));
    Due.is("of visible ones", 1, () -> vault.told(400));
    vault.reopen();
    Due.is("it lasts", 1, () -> vault.told(400));
    Due.missing("not out any more", () -> vault.acknowledge(0, 2));
    Due.is("done ones do not come again", 2, () -> vault.take(0));
    Due.is("none is out then", 0, () -> vault.acknowledge(0, 2));
    Vaults.turnOff(vault);
    Due.badState("off", () -> vault.acknowledge(0, 2));
    Due.badState("off, and no such group", () -> vault.acknowledge(8, 0));
    timeIsCome();
    full();
    powerFails();
    sixteenToNone();
    justSoMuchRoom();
    refusedChangesNothing();
    Due.end();
  }

  private static void timeIsCome() {
    EventVault vault = Vaults.with(0, 1);
    vault.group(0, -1, 0, 9);
    vault.take(0);
    vault.tick(7);
    vault.tick(1);
    Due.missing("too late", () -> vault.acknowledge(0, 0));
  }

  private static void full() {
    EventVault vault = Vaults.with(0, 1);
    vault.group(0, 0, 0, 0);
    vault.take(0);
    Vaults.fillUp(vault, 24);
    Due.missing("not out, and the disk is full", () -> vault.acknowledge(0, 1));
    Due.badState("the disk is full", () -> vault.acknowledge(0, 0));
    Due.is("it is out still", 1, () -> vault.told(300));
    Due.is("not done", 0, () -> vault.told(400));
  }

  private static void powerFails() {
    EventVault vault = Vaults.with(0, 1);
    vault.group(0, 0, 0, 0);
    vault.take(0);
    vault.power(31);
    Due.powerFails("a byte too few", () -> vault.acknowledge(0, 0));
    vault.reopen();
    Due.is("not done", 0, () -> vault.told(400));
    vault.take(0);
    vault.power(32);
    Due.powerFails("all bytes", () -> vault.acknowledge(0, 0));
    vault.reopen();
    Due.is("done", 1, () -> vault.told(400));
  }

  private static void sixteenToNone() {
    EventVault vault = Vaults.with(31, 1, 2, 3, 4, 5, 6, 7, 8);
    Vaults.append(vault, 0, 1, 2, 3, 4, 5, 6, 7, 8);
    vault.group(7, -1, 0, 0);
    for (int i = 0; i < 16; i++) {
      vault.take(7);
    }
    for (int left = 15; left >= 0; left--) {
      int position = (5 * left + 3) % 16;
      Due.is(left + " are out then", left, () -> vault.acknowledge(7, position));
      Due.is(left + " are told", left, () -> vault.told(307));
      Due.is("done as " + left + " are out", 16 - left, () -> vault.told(407));
      Due.missing("twice " + position, vault, () -> vault.acknowledge(7, position));
    }
    Due.is("none is parked", 0, () -> vault.told(507));
    vault.tick(8);
    Due.is("none ever", 0, () -> vault.told(507));
    Due.is("none is open", -1, () -> vault.take(7));
  }

  private static void justSoMuchRoom() {
    EventVault fits = Vaults.busyAndFull(32);
    Due.is("just so much room", 1, () -> fits.acknowledge(0, 3));
    Due.is("none is left", 0, () -> Vaults.free(fits));
    EventVault full = Vaults.busyAndFull(24);
    Due.badState("no room", full, () -> full.acknowledge(0, 3));
    full.power(0);
    Due.badState("no room, so power does not fail", full, () -> full.acknowledge(0, 3));
    Due.missing("not out, and no room", full, () -> full.acknowledge(0, 2));
    full.power(-1);
    full.scavenge();
    Due.is("it was out all the time", 1, () -> full.acknowledge(0, 3));
  }

  private static void refusedChangesNothing() {
    EventVault vault = Vaults.busy();
    int[] noGroups = {-1, 1, 8, Integer.MIN_VALUE, Integer.MAX_VALUE};
    for (int g : noGroups) {
      Due.missing("group " + g, vault, () -> vault.acknowledge(g, 3));
    }
    int[] notOut = {Integer.MIN_VALUE, -1, 0, 1, 2, 5, vault.told(2), 2499, 2500, Integer.MAX_VALUE};
    for (int position : notOut) {
      Due.missing("position " + position, vault, () -> vault.acknowledge(0, position));
    }
    Due.missing("out for another group", vault, () -> vault.acknowledge(7, 3));
    EventVault off = Vaults.busyAndOff();
    Due.badState("off", off, () -> off.acknowledge(0, 3));
    Due.badState("off, and not out", off, () -> off.acknowledge(0, -1));
    EventVault anew = Vaults.busy();
    anew.group(0, -1, 0, 0);
    Due.missing("out before it was made anew", anew, () -> anew.acknowledge(0, 3));
  }
}
