public final class Promise03AppendTest {
  public static void main(String[] args) {
    expectedVersions();
    comesOnce();
    hiddenIdsComeAgain();
    leastPlaceForAnything();
    ordersAndFields();
    wrongCalls();
    emptiesTheDraft();
    limits();
    powerFails();
    oneAndEight();
    keepsTheDraft();
    refusedButForTheDraft();
    largestVersions();
    Due.end();
  }

  private static void expectedVersions() {
    EventVault fresh = new EventVault();
    Due.badState("id 0 of a version that is not", () -> again(fresh, 0, 0));
    Due.is("id 0", 0, () -> again(fresh, -1, 0));
    Due.badState("id 0 twice, but once there", () -> again(fresh, -2, 0, 0));
    EventVault vault = Vaults.with(0, 1, 2);
    vault.draft(3, 0, 0);
    Due.badState("too low a version", () -> vault.append(0, 0));
    vault.draft(3, 0, 0);
    Due.badState("too high a version", () -> vault.append(0, 2));
    vault.draft(3, 0, 0);
    Due.badState("the highest version", () -> vault.append(0, Integer.MAX_VALUE));
    vault.draft(3, 0, 0);
    Due.badState("no version", () -> vault.append(0, -1));
    vault.draft(3, 0, 0);
    Due.is("the version", 2, () -> vault.append(0, 1));
    vault.draft(4, 0, 0);
    Due.is("anything", 3, () -> vault.append(0, -2));
    vault.draft(4, 0, 0);
    Due.is("no version of another stream", 4, () -> vault.append(31, -1));
    Due.is("version", 3, () -> vault.told(100));
    Due.is("version of another stream", 0, () -> vault.told(131));
    Due.is("bytes", 4 * 24 + 5 * 24, () -> vault.told(4));
    Due.is("records", 4, () -> vault.told(7));
  }

  private static void comesOnce() {
    EventVault vault = Vaults.with(0, 1, 2, 3);
    Vaults.append(vault, 1, 9);
    Vaults.append(vault, 0, 4);
    Due.is("all as they came", 0, () -> again(vault, -1, 1, 2, 3));
    Due.is("some of them, and behind another stream's", 2, () -> again(vault, 1, 3, 4));
    Due.is("anything", 1, () -> again(vault, -2, 2, 3));
    Due.badState("not where it is expected", () -> again(vault, 0, 1, 2));
    Due.badState("not behind one another", () -> again(vault, -2, 1, 3));
    Due.badState("in another order", () -> again(vault, -2, 2, 1));
    Due.badState("one too many", () -> again(vault, -2, 4, 5));
    Due.badState("one that is new, first", () -> again(vault, -2, 5, 1));
    Due.badState("at the version, though ids are there", () -> again(vault, 3, 4));
    Due.is("nothing was done", 5, () -> vault.told(2));
    Due.is("no record", 3, () -> vault.told(7));
    vault.draft(1, 7, 99);
    Due.is("only ids say it", 0, () -> vault.append(0, -2));
    Due.is("data is as it came", 10, () -> vault.event(0, 4));
    vault.power(0);
    Due.is("without a record power does not fail", 0, () -> again(vault, -1, 1));
    Due.is("same ids elsewhere are new", 6, () -> {
      vault.power(-1);
      vault.draft(8, 0, 0);
      vault.append(2, -2);
      vault.draft(1, 0, 0);
      return vault.append(2, 0);
    });
  }

  private static void hiddenIdsComeAgain() {
    EventVault vault = Vaults.with(0, 1, 2, 3);
    vault.settings(0, 0, 0, 2);
    Due.badState("partly hidden", () -> again(vault, -2, 2, 3));
    Due.badState("hidden, by its version", () -> again(vault, -1, 1));
    Due.is("hidden", 3, () -> again(vault, 2, 1, 2));
    Due.is("visible again", 3, () -> again(vault, -2, 1, 2));
    vault.settings(0, 0, 0, 100);
    Due.is("hidden as it comes", 5, () -> again(vault, -2, 7));
    Due.is("and once more", 6, () -> again(vault, -2, 7));
    Due.is("none is visible", 0, () -> vault.told(3));
  }

  private static void leastPlaceForAnything() {
    EventVault vault = Vaults.with(0, 1, 1, 2, 1, 2);
    Due.is("the same id twice in a draft", 4, () -> vault.told(100));
    Due.is("the least of two places", 0, () -> again(vault, -2, 1));
    Due.is("a longer one", 1, () -> again(vault, -2, 1, 2));
    Due.is("a place that is expected", 3, () -> again(vault, 2, 1, 2));
    vault.settings(0, 0, 0, 2);
    Due.is("the least visible place", 3, () -> again(vault, -2, 1, 2));
  }

  private static void ordersAndFields() {
    EventVault vault = new EventVault();
    vault.tick(7);
    vault.draft(-5, 3, -50);
    vault.draft(6, 15, Long.MAX_VALUE);
    Due.is("append", 0, () -> vault.append(31, -1));
    long[] want = {31, 1, 6, 15, Long.MAX_VALUE, 7};
    for (int what = 0; what < want.length; what++) {
      int asked = what;
      Due.is("event(1, " + what + ")", want[what], () -> vault.event(1, asked));
    }
    Due.is("the first id", -5, () -> vault.event(0, 2));
  }

  private static void wrongCalls() {
    EventVault vault = new EventVault();
    Due.badState("an empty draft", () -> vault.append(0, -2));
    EventVault one = Vaults.with(0, 1);
    Due.badState("an empty draft, and a version below", () -> one.append(0, -1));
    Due.badState("an empty draft, and the version", () -> one.append(0, 0));
    vault.draft(1, 0, 0);
    Due.badArgument("stream -1", () -> vault.append(-1, -2));
    Due.badArgument("stream 32", () -> vault.append(32, -2));
    Due.badArgument("expected -3", () -> vault.append(0, -3));
    Due.badArgument("the least expected", () -> vault.append(0, Integer.MIN_VALUE));
    Due.is("the draft stays", 1, () -> vault.told(5));
    vault.end(4);
    Due.badState("ended", () -> vault.append(4, -2));
    Due.is("the draft is empty", 0, () -> vault.told(5));
    EventVault off = Vaults.off();
    off.draft(1, 0, 0);
    Due.badState("off", () -> off.append(0, -2));
    Due.badArgument("off, and no such stream", () -> off.append(32, -2));
    Due.is("the draft stays while off", 1, () -> off.told(5));
  }

  private static void emptiesTheDraft() {
    EventVault vault = Vaults.with(0, 1);
    Due.is("appended", 0, () -> vault.told(5));
    again(vault, -1, 1);
    Due.is("nothing was done", 0, () -> vault.told(5));
    Due.badState("refused", () -> again(vault, 7, 2));
    Due.is("refused", 0, () -> vault.told(5));
  }

  /** More calls than an object is promised for, as the limits lie behind them. */
  private static void limits() {
    EventVault full = Vaults.almostFull(40);
    full.draft(1, 0, 0);
    Due.badState("no room for 48 bytes", () -> full.append(0, -2));
    Due.is("the draft is empty", 0, () -> full.told(5));
    EventVault fits = Vaults.almostFull(48);
    fits.draft(1, 0, 0);
    Due.is("room for 48 bytes", 0, () -> fits.append(0, -2));
    fits.draft(1, 0, 0);
    Due.is("nothing done needs no room", 0, () -> fits.append(0, -2));
    EventVault many = Vaults.many();
    Vaults.append(many, 0, 1, 2, 3);
    refused("2501 events", many, 1, -2, 1, 2);
    Due.is("2500 events", 2499, () -> Vaults.append(many, 1, 1));
    refused("one more", many, 1, -2, 2);
    refused("one more at the version", many, 1, 0, 2);
    Due.is("positions", 2500, () -> many.told(2));
    Due.is("what is there already makes none more", 2499, () -> Vaults.append(many, 1, 1));
    Due.is("the last position", 1, () -> many.event(2499, 0));
    Due.is("those that are there", 2496, () -> Vaults.append(many, 0, 1, 2, 3));
    refused("one that is there, and one behind the last", many, 1, -2, 1, 2);
    refused("those that are there, from the second on", many, 0, -2, 2, 3, 4);
  }

  private static void powerFails() {
    EventVault vault = Vaults.with(0, 1);
    vault.power(71);
    Due.powerFails("a byte too few", () -> Vaults.append(vault, 0, 2, 3));
    Due.is("off", 0, () -> vault.told(0));
    Due.is("bytes", 48, () -> vault.told(4));
    Due.is("reopen", 1, vault::reopen);
    vault.power(72);
    Due.powerFails("all bytes", () -> Vaults.append(vault, 0, 2, 3));
    Due.is("bytes of both", 120, () -> vault.told(4));
    Due.is("reopen with both", 3, vault::reopen);
    Due.is("it is there", 1, () -> again(vault, 0, 2, 3));
  }

  private static int again(EventVault vault, int expected, int... ids) {
    for (int id : ids) {
      vault.draft(id, 0, 0);
    }
    return vault.append(0, expected);
  }

  private static void oneAndEight() {
    EventVault vault = new EventVault();
    Due.is("one", 0, () -> again(vault, -1, 1));
    Due.is("bytes of one", 48, () -> vault.told(4));
    Due.is("eight", 1, () -> again(vault, 0, 2, 3, 4, 5, 6, 7, 8, 9));
    Due.is("bytes of eight more", 48 + 24 + 8 * 24, () -> vault.told(4));
    Due.is("version", 8, () -> vault.told(100));
    Due.is("records", 2, () -> vault.told(7));
    Due.is("the eight again", 1, () -> again(vault, 0, 2, 3, 4, 5, 6, 7, 8, 9));
    Due.is("the last of them again", 8, () -> again(vault, 7, 9));
    refused("the last of them, and one behind the version", vault, 0, 7, 9, 10);
    refused("the first, and one before it", vault, 0, -2, 0, 1);
  }

  private static void keepsTheDraft() {
    EventVault vault = Vaults.busy();
    vault.draft(70, 0, 0);
    vault.draft(71, 0, 0);
    int[] noStreams = {-1, 32, 39, 40, Integer.MIN_VALUE, Integer.MAX_VALUE};
    for (int stream : noStreams) {
      Due.badArgument("stream " + stream, vault, () -> vault.append(stream, -2));
    }
    int[] noVersions = {-3, -4, Integer.MIN_VALUE};
    for (int expected : noVersions) {
      Due.badArgument("expected " + expected, vault, () -> vault.append(0, expected));
    }
    int positions = vault.told(2);
    Due.is("the draft is whole", positions, () -> vault.append(9, -1));
    Due.is("its last", 71, () -> vault.event(positions + 1, 2));
    EventVault off = Vaults.busyAndOff();
    off.draft(70, 0, 0);
    Due.badState("off", off, () -> off.append(0, -2));
    Due.badArgument("off, and stream -1", off, () -> off.append(-1, -2));
    EventVault empty = Vaults.busy();
    Due.badArgument("an empty draft, and stream 32", empty, () -> empty.append(32, -2));
    Due.badArgument("an empty draft, and expected -3", empty, () -> empty.append(0, -3));
    Due.badState("an empty draft", empty, () -> empty.append(0, -2));
  }

  private static void refusedButForTheDraft() {
    EventVault vault = Vaults.busy();
    refused("below the version", vault, 0, 2, 70);
    refused("above the version", vault, 0, 4, 70);
    refused("a visible id, and a new one", vault, 0, 3, 4, 70);
    refused("a visible id at the version", vault, 0, 3, 4);
    refused("ended, and anything", vault, 5, -2, 70);
    refused("ended, and its version", vault, 5, 0, 70);
    refused("ended, and what was there", vault, 5, -1, 7);
    EventVault full = Vaults.busyAndFull(40);
    refused("no room for one", full, 0, -2, 70);
    EventVault fuller = Vaults.busyAndFull(208);
    refused("no room for eight", fuller, 9, -1, 1, 2, 3, 4, 5, 6, 7, 8);
    Due.is("room for seven", fuller.told(2), () -> again(fuller, 3, 71, 72, 73, 74, 75, 76, 77));
    EventVault fits = Vaults.busyAndFull(216);
    Due.is("room for eight", fits.told(2), () -> again(fits, 3, 71, 72, 73, 74, 75, 76, 77, 78));
    Due.is("none is left", 0, () -> Vaults.free(fits));
    fits.power(0);
    refused("full, so power does not fail", fits, 0, -2, 79);
    Due.is("on", 1, () -> fits.told(0));
  }

  /** What is expected may be as high as an int goes: the first n + 1 is none then, by whatever wrap-around. */
  private static void largestVersions() {
    EventVault vault = Vaults.with(0, 1);
    int[] versions = {1, Integer.MAX_VALUE - 1, Integer.MAX_VALUE};
    for (int expected : versions) {
      refused("new, at " + expected, vault, 0, expected, 2);
      refused("there, at " + expected, vault, 0, expected, 1);
      refused("nothing there, at " + expected, vault, 8, expected, 1);
    }
    Due.is("-1 is the least that is a version", 0, () -> again(vault, -1, 1));
    Due.is("-2 is anything", 0, () -> again(vault, -2, 1));
  }

  /** The draft is empty before and behind it, and nothing else is done. */
  private static void refused(String what, EventVault vault, int stream, int expected, int... ids) {
    Due.unchanged(what, vault, () -> {
      for (int id : ids) {
        vault.draft(id, 0, 0);
      }
      Due.badState(what, () -> vault.append(stream, expected));
    });
  }
}
