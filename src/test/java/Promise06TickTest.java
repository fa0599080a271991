public final class Promise06TickTest {
  public static void main(String[] args) {
    time();
    whatIsOut();
    eachItsOwnTime();
    parksBeforeItHides();
    wrongCalls();
    powerFails();
    smallestAndLargest();
    triesAboveRetries();
    allThatCanBeOut();
    refusedChangesNothing();
    hidesTheLastPosition();
    Due.end();
  }

  private static void time() {
    EventVault vault = new EventVault();
    Due.is("none is out", 0, () -> vault.tick(1));
    vault.tick(1000);
    Due.is("time", 1001, () -> vault.told(1));
    Due.is("bytes", 64, () -> vault.told(4));
    vault.reopen();
    Due.is("time lasts", 1001, () -> vault.told(1));
    Vaults.append(vault, 0, 1);
    Due.is("an event's time", 1001, () -> vault.event(0, 5));
  }

  private static void whatIsOut() {
    EventVault vault = Vaults.with(0, 1, 2, 3);
    vault.group(0, -1, 0, 0);
    vault.group(7, 0, 1, 1);
    vault.take(0);
    vault.tick(1);
    vault.take(0);
    vault.take(7);
    Due.is("not yet", 0, () -> vault.tick(6));
    Due.is("three are out", 3, () -> vault.told(300) + vault.told(307));
    int before = vault.told(4);
    Due.is("the first one", 1, () -> vault.tick(1));
    Due.is("it is parked", 1, () -> vault.told(500));
    Due.is("bytes with one that is parked", before + 40, () -> vault.told(4));
    Due.is("the others", 2, () -> vault.tick(100));
    Due.is("one is parked, one is not", before + 80, () -> vault.told(4));
    Due.is("parked for the one", 2, () -> vault.told(500));
    Due.is("none for the other", 0, () -> vault.told(507));
    Due.is("which gets it again", 1, () -> vault.take(7));
    Due.is("one of a tick that parks is one record", 1, () -> {
      int records = vault.told(7);
      vault.tick(8);
      return vault.told(7) - records;
    });
  }

  private static void eachItsOwnTime() {
    EventVault vault = Vaults.with(0, 1, 2, 3);
    vault.group(0, 0, 0, 9);
    for (int i = 0; i < 3; i++) {
      vault.take(0);
      vault.tick(2);
    }
    vault.acknowledge(0, 0);
    Due.is("at 8", 0, () -> vault.tick(2));
    Due.is("at 10", 1, () -> vault.tick(2));
    Due.missing("the second is not out", () -> vault.acknowledge(0, 1));
    Due.is("at 11", 0, () -> vault.tick(1));
    Due.is("at 12", 1, () -> vault.tick(1));
    Due.missing("the third is not out", () -> vault.acknowledge(0, 2));
  }

  private static void parksBeforeItHides() {
    EventVault vault = Vaults.with(0, 1, 2);
    vault.group(0, 0, 0, 0);
    vault.take(0);
    vault.settings(0, 0, 0, 1);
    vault.settings(0, 0, 8, 1);
    vault.take(0);
    int before = vault.told(4);
    Due.is("a hidden one, and one that is hidden by this tick", 2, () -> vault.tick(8));
    Due.is("both are parked", before + 48, () -> vault.told(4));
    Due.is("neither is visible", 0, () -> vault.told(500));
    Due.is("none is out", 0, () -> vault.told(300));
  }

  private static void wrongCalls() {
    EventVault vault = new EventVault();
    Due.badArgument("0", () -> vault.tick(0));
    Due.badArgument("-1", () -> vault.tick(-1));
    Due.badArgument("1001", () -> vault.tick(1001));
    EventVault off = Vaults.off();
    Due.badState("off", () -> off.tick(1));
    Due.badArgument("off, and 0", () -> off.tick(0));
    EventVault full = Vaults.with(0, 1);
    full.group(0, 0, 0, 0);
    full.take(0);
    Vaults.fillUp(full, 32);
    Due.badState("no room for the one that parks", () -> full.tick(8));
    Due.is("it is out still", 1, () -> full.told(300));
    Due.is("time as before", 0, () -> full.told(1));
    Due.is("room for none", 0, () -> full.tick(7));
    Due.badState("no room at all", () -> full.tick(1));
  }

  private static void powerFails() {
    EventVault vault = Vaults.with(0, 1);
    vault.group(0, 0, 0, 0);
    vault.take(0);
    vault.power(39);
    Due.powerFails("a byte too few", () -> vault.tick(8));
    vault.reopen();
    Due.is("time as before", 0, () -> vault.told(1));
    Due.is("not parked", 0, () -> vault.told(500));
    vault.take(0);
    vault.power(40);
    Due.powerFails("all bytes", () -> vault.tick(8));
    vault.reopen();
    Due.is("time", 8, () -> vault.told(1));
    Due.is("parked", 1, () -> vault.told(500));
    Due.is("none is out", 0, () -> vault.told(300));
  }

  private static void smallestAndLargest() {
    EventVault vault = new EventVault();
    vault.tick(1);
    Due.is("the smallest", 1, () -> vault.told(1));
    vault.tick(1000);
    Due.is("the largest", 1001, () -> vault.told(1));
    for (int i = 0; i < 500; i++) {
      vault.tick(1000);
    }
    Due.is("as far as it goes", 501001, () -> vault.told(1));
    for (int n = 6; n <= 9; n++) {
      EventVault out = Vaults.with(0, 1);
      out.group(0, 0, 0, 9);
      out.take(0);
      out.tick(1);
      int more = n;
      Due.is("1, and " + n, n >= 7 ? 1 : 0, () -> out.tick(more));
      Due.is("out behind 1 and " + n, n >= 7 ? 0 : 1, () -> out.told(300));
    }
  }

  /** Of two groups, one parks at so many tries, and the other at one more. */
  private static void triesAboveRetries() {
    EventVault vault = Vaults.with(0, 1);
    vault.group(0, 0, 0, 8);
    vault.group(1, 0, 0, 9);
    for (int tries = 1; tries <= 10; tries++) {
      vault.take(0);
      vault.take(1);
      Due.is("out at " + tries, tries == 10 ? 1 : 2, () -> vault.tick(8));
      Due.is("parked at " + tries, tries >= 9 ? 1 : 0, () -> vault.told(500));
      Due.is("parked by more at " + tries, tries >= 10 ? 1 : 0, () -> vault.told(501));
    }
  }

  private static void allThatCanBeOut() {
    EventVault vault = Vaults.with(0, 1, 2, 3, 4, 5, 6, 7, 8);
    Vaults.append(vault, 1, 1, 2, 3, 4, 5, 6, 7, 8);
    for (int g = 0; g < 8; g++) {
      vault.group(g, -1, 0, g % 2);
      for (int i = 0; i < 16; i++) {
        vault.take(g);
      }
    }
    vault.settings(0, 0, 0, 3);
    int bytes = vault.told(4);
    int records = vault.told(7);
    Due.is("sixteen of eight groups", 128, () -> vault.tick(8));
    Due.is("half of them are parked, hidden or not", bytes + 32 + 64 * 8, () -> vault.told(4));
    Due.is("by one record", records + 1, () -> vault.told(7));
    for (int g = 0; g < 8; g++) {
      int asked = g;
      Due.is("none is out for " + g, 0, () -> vault.told(300 + asked));
      Due.is("visible ones that are parked for " + g, g % 2 == 0 ? 13 : 0, () -> vault.told(500 + asked));
      Due.is("the next one for " + g, g % 2 == 0 ? -1 : 3, () -> vault.take(asked));
    }
  }

  private static void refusedChangesNothing() {
    EventVault vault = Vaults.busy();
    int[] none = {0, -1, 1001, Integer.MIN_VALUE, Integer.MAX_VALUE};
    for (int n : none) {
      Due.badArgument("tick " + n, vault, () -> vault.tick(n));
    }
    EventVault off = Vaults.busyAndOff();
    Due.badState("off", off, () -> off.tick(8));
    EventVault full = Vaults.busyAndFull(40);
    Due.badState("no room for two that park", full, () -> full.tick(8));
    full.power(0);
    Due.badState("full, so power does not fail", full, () -> full.tick(8));
    full.power(-1);
    Due.is("what is out stays so", 1, () -> full.acknowledge(0, 3));
    Due.is("room for one that parks is gone", 8, () -> Vaults.free(full));
    EventVault fits = Vaults.busyAndFull(48);
    Due.is("room for two that park", 3, () -> fits.tick(8));
    Due.is("none is left", 0, () -> Vaults.free(fits));
    EventVault till = Vaults.with(0, 1);
    till.group(0, 0, 0, 9);
    till.take(0);
    till.tick(7);
    Due.badArgument("wrong, and a tick more would be its time", till, () -> till.tick(0));
    Due.is("it is out still", 0, () -> till.acknowledge(0, 0));
  }

  /** Age hides as far as the positions go. More calls than an object is promised for. */
  private static void hidesTheLastPosition() {
    EventVault vault = Vaults.most();
    vault.settings(31, 0, 5, 0);
    vault.group(0, -1, 2499, 0);
    vault.take(0);
    vault.tick(4);
    Due.is("not yet", 4, () -> vault.told(3));
    vault.tick(1);
    Due.is("all are hidden", 0, () -> vault.told(3));
    Due.is("the last one is out till its time", 1, () -> vault.tick(3));
    Due.is("hidden, so none is told", 0, () -> vault.told(500));
    Due.is("none is out", 0, () -> vault.told(300));
  }
}
