public final class Promise10TakeTest {
  public static void main(String[] args) {
    order();
    sixteen();
    hidden();
    wrongCalls();
    sixteenOfEach();
    noneTakesNoTry();
    till();
    refusedChangesNothing();
    theLastPosition();
    Due.end();
  }

  private static void order() {
    EventVault vault = Vaults.with(0, 1, 2);
    Vaults.append(vault, 1, 3);
    Vaults.append(vault, 0, 4);
    vault.group(0, 0, 1, 9);
    vault.group(1, -1, 0, 9);
    int bytes = vault.told(4);
    Due.is("the least position", 1, () -> vault.take(0));
    Due.is("another stream's is not wanted", 3, () -> vault.take(0));
    Due.is("none is left", -1, () -> vault.take(0));
    Due.is("another group gets it too", 0, () -> vault.take(1));
    vault.refuse(0, 1);
    Due.is("one that came back", 1, () -> vault.take(0));
    vault.acknowledge(0, 3);
    Due.is("not one that is done", -1, () -> vault.take(0));
    Vaults.append(vault, 0, 5);
    Due.is("one that came", 4, () -> vault.take(0));
    Due.is("no record but the others'", 32 + 48, () -> vault.told(4) - bytes);
    vault.reopen();
    Due.is("none is out", 0, () -> vault.told(300));
    Due.is("given again", 1, () -> vault.take(0));
  }

  private static void sixteen() {
    EventVault vault = Vaults.with(0, 1, 2, 3, 4, 5, 6, 7, 8);
    Vaults.append(vault, 0, 11, 12, 13, 14, 15, 16, 17, 18);
    Vaults.append(vault, 0, 21, 22);
    vault.group(0, -1, 0, 0);
    for (int i = 0; i < 16; i++) {
      int position = i;
      Due.is("take " + i, position, () -> vault.take(0));
    }
    Due.is("sixteen are out", -1, () -> vault.take(0));
    vault.settings(0, 0, 0, 16);
    Due.is("hidden ones count", -1, () -> vault.take(0));
    Due.is("sixteen, hidden or not", 16, () -> vault.told(300));
    vault.acknowledge(0, 3);
    Due.is("one more", 16, () -> vault.take(0));
    Due.is("no more", -1, () -> vault.take(0));
  }

  private static void hidden() {
    EventVault vault = Vaults.with(0, 1, 2, 3);
    vault.group(0, -1, 0, 9);
    vault.settings(0, 0, 0, 1);
    Due.is("the least visible", 1, () -> vault.take(0));
    vault.settings(0, 0, 0, 2);
    vault.refuse(0, 1);
    Due.is("not one that is hidden meanwhile", 2, () -> vault.take(0));
  }

  private static void wrongCalls() {
    EventVault vault = Vaults.with(0, 1);
    vault.group(3, 0, 0, 0);
    Due.missing("not made", () -> vault.take(2));
    Due.missing("group -1", () -> vault.take(-1));
    Due.missing("group 8", () -> vault.take(8));
    Vaults.turnOff(vault);
    Due.badState("off", () -> vault.take(3));
    Due.badState("off, and no such group", () -> vault.take(8));
  }

  private static void sixteenOfEach() {
    EventVault vault = Vaults.with(0, 1, 2, 3, 4, 5, 6, 7, 8);
    Vaults.append(vault, 0, 11, 12, 13, 14, 15, 16, 17, 18);
    Vaults.append(vault, 0, 21);
    vault.group(0, -1, 0, 9);
    vault.group(1, -1, 0, 9);
    for (int i = 0; i < 16; i++) {
      Due.is("out of the one " + i, i, () -> vault.told(300));
      vault.take(0);
    }
    Due.is("the sixteenth is out", 16, () -> vault.told(300));
    Due.is("no seventeenth", -1, () -> vault.take(0));
    Due.is("sixteen still", 16, () -> vault.told(300));
    Due.is("another group is not full", 0, () -> vault.take(1));
    vault.refuse(0, 15);
    Due.is("by refuse there is room", 15, () -> vault.take(0));
    Due.is("but for one", -1, () -> vault.take(0));
    vault.tick(8);
    Due.is("as their time is come there is room", 0, () -> vault.take(0));
  }

  /** A call that answers -1 gives nothing, so what is out parks no sooner by it. */
  private static void noneTakesNoTry() {
    EventVault vault = Vaults.with(0, 1);
    vault.group(0, 0, 0, 1);
    vault.take(0);
    Due.is("the only one is out", -1, () -> vault.take(0));
    Due.is("and once more", -1, () -> vault.take(0));
    Due.is("out once", 1, () -> vault.told(300));
    Due.is("one try alone", 0, () -> vault.refuse(0, 0));
    vault.take(0);
    Due.is("the second", 1, () -> vault.refuse(0, 0));
    Due.is("none but a parked one", -1, () -> vault.take(0));
    EventVault done = Vaults.with(0, 1);
    done.group(0, 0, 0, 1);
    done.take(0);
    done.acknowledge(0, 0);
    Due.is("none but a done one", -1, () -> done.take(0));
    EventVault hidden = Vaults.with(0, 1);
    hidden.group(0, 0, 0, 1);
    hidden.end(0);
    Due.is("none but a hidden one", -1, () -> hidden.take(0));
    EventVault empty = new EventVault();
    empty.group(0, -1, 0, 0);
    Due.is("none at all", -1, () -> empty.take(0));
  }

  /** What is given at TIME 5 is out as it is 12, and not as it is 13. */
  private static void till() {
    for (int n = 7; n <= 8; n++) {
      EventVault vault = Vaults.with(0, 1);
      vault.group(0, 0, 0, 9);
      vault.tick(5);
      vault.take(0);
      vault.tick(n);
      Due.is("behind " + n, n == 7 ? -1 : 0, () -> vault.take(0));
    }
  }

  private static void refusedChangesNothing() {
    EventVault vault = Vaults.busy();
    int[] none = {-1, 1, 6, 8, Integer.MIN_VALUE, Integer.MAX_VALUE};
    for (int g : none) {
      Due.missing("group " + g, vault, () -> vault.take(g));
    }
    EventVault off = Vaults.busyAndOff();
    Due.badState("off", off, () -> off.take(0));
    Due.badState("off, and not made", off, () -> off.take(1));
    EventVault full = Vaults.busyAndFull(0);
    full.power(0);
    Due.is("a full disk takes none away", 3, () -> full.take(7));
    Due.is("on", 1, () -> full.told(0));
  }

  /** More calls than an object is promised for. */
  private static void theLastPosition() {
    EventVault vault = Vaults.most();
    vault.group(0, -1, 2499, 0);
    vault.group(1, 31, 0, 0);
    vault.group(2, -1, 2500, 0);
    Due.is("the last", 2499, () -> vault.take(0));
    Due.is("none behind it", -1, () -> vault.take(0));
    Due.is("none from 2500 on", -1, () -> vault.take(2));
    for (int i = 2496; i <= 2499; i++) {
      int position = i;
      Due.is("take " + i, i, () -> vault.take(1));
      Due.is("acknowledge " + i, 0, () -> vault.acknowledge(1, position));
    }
    Due.is("refuse the last", 1, () -> vault.refuse(0, 2499));
    Due.is("parked", 1, () -> vault.told(500));
    Due.is("done", 4, () -> vault.told(401));
    Due.is("kept", 64 + 4 * 24 + 2 * 24 + 3 * 32 + 5 * 4, vault::scavenge);
  }
}
