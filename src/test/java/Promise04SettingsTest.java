public final class Promise04SettingsTest {
  public static void main(String[] args) {
    from();
    most();
    age();
    together();
    streamsOfProjections();
    wrongCalls();
    powerFails();
    smallestAndLargest();
    edgeOfEach();
    refusedChangesNothing();
    refusedSetsNothing();
    forEver();
    Due.end();
  }

  private static void from() {
    EventVault vault = Vaults.with(0, 1, 2, 3);
    Due.is("nothing set", 0, () -> vault.settings(0, 0, 0, 0));
    Due.is("from 2", 2, () -> vault.settings(0, 0, 0, 2));
    Due.is("hidden for ever", 2, () -> vault.settings(0, 0, 0, 0));
    Due.is("lower again", 2, () -> vault.settings(0, 0, 0, 1));
    Due.is("behind the last", 3, () -> vault.settings(0, 0, 0, Integer.MAX_VALUE));
    Vaults.append(vault, 0, 4);
    Due.is("what came then is hidden too", 0, () -> vault.told(3));
    Due.is("but not what comes behind", 4, () -> vault.settings(0, 0, 0, 0));
    Vaults.append(vault, 0, 5);
    Due.is("it is visible", 1, () -> vault.told(3));
    Due.is("without events", 0, () -> vault.settings(5, 0, 0, 7));
    Due.is("bytes", 96 + 48 + 48 + 7 * 32, () -> vault.told(4));
  }

  private static void most() {
    EventVault vault = Vaults.with(0, 1, 2, 3);
    Due.is("as many as there are", 0, () -> vault.settings(0, 3, 0, 0));
    Due.is("two", 1, () -> vault.settings(0, 2, 0, 0));
    Due.is("more again", 1, () -> vault.settings(0, Integer.MAX_VALUE, 0, 0));
    Due.is("one", 2, () -> vault.settings(0, 1, 0, 0));
    Vaults.append(vault, 0, 4, 5);
    Due.is("only the last that came", 4, () -> vault.settings(0, 0, 0, 0));
    Due.is("without events", 0, () -> vault.settings(1, Integer.MAX_VALUE, 0, 0));
    Vaults.append(vault, 2, 1, 2);
    Due.is("another stream's stay", 0, () -> vault.settings(2, 0, 0, 0));
  }

  private static void age() {
    EventVault vault = Vaults.with(0, 1);
    vault.tick(3);
    Vaults.append(vault, 0, 2);
    vault.tick(2);
    Due.is("not yet", 0, () -> vault.settings(0, 0, 6, 0));
    Due.is("the first", 1, () -> vault.settings(0, 0, 5, 0));
    Due.is("for ever", 1, () -> vault.settings(0, 0, 0, 0));
    Due.is("all", 2, () -> vault.settings(0, 0, 1, 0));
    Vaults.append(vault, 0, 3);
    Due.is("what comes is not old", 1, () -> vault.told(3));
    vault.tick(1);
    Due.is("but soon", 0, () -> vault.told(3));
  }

  private static void together() {
    EventVault vault = Vaults.with(0, 1, 2, 3, 4);
    Due.is("the highest of all", 3, () -> vault.settings(0, 2, 1000, 3));
    EventVault other = Vaults.with(0, 1, 2, 3, 4);
    Due.is("the highest of all, by most", 2, () -> other.settings(0, 2, 1000, 1));
  }

  private static void streamsOfProjections() {
    EventVault vault = Vaults.with(0, 1, 2, 3);
    Due.is("without a projection", 0, () -> vault.settings(39, 1, 0, 0));
    Vaults.project(vault, 7, 1, 0, 18, 0);
    vault.step(7);
    vault.step(7);
    Due.is("only the last emitted", 4, () -> vault.read(39, 0, 0, false));
    Due.is("from", 2, () -> vault.settings(39, 0, 0, 9));
    vault.step(7);
    Due.is("hidden as it comes", -1, () -> vault.read(39, 0, 0, false));
    Due.is("its version", 2, () -> vault.told(139));
  }

  private static void wrongCalls() {
    EventVault vault = new EventVault();
    Due.badArgument("stream -1", () -> vault.settings(-1, 0, 0, 0));
    Due.badArgument("stream 40", () -> vault.settings(40, 0, 0, 0));
    Due.badArgument("most", () -> vault.settings(0, -1, 0, 0));
    Due.badArgument("age", () -> vault.settings(0, 0, -1, 0));
    Due.badArgument("from", () -> vault.settings(0, 0, 0, Integer.MIN_VALUE));
    Due.is("no record", 0, () -> vault.told(7));
    vault.end(3);
    Due.badState("ended", () -> vault.settings(3, 0, 0, 0));
    Due.badArgument("ended, and a wrong number", () -> vault.settings(3, 0, 0, -1));
    EventVault off = Vaults.off();
    Due.badState("off", () -> off.settings(0, 0, 0, 0));
    Due.badArgument("off, and no such stream", () -> off.settings(40, 0, 0, 0));
    EventVault full = Vaults.almostFull(24);
    Due.badState("the disk is full", () -> full.settings(0, 1, 0, 0));
    EventVault fits = Vaults.almostFull(32);
    Due.is("just so much room", 0, () -> fits.settings(0, 1, 0, 0));
  }

  private static void powerFails() {
    EventVault vault = Vaults.with(0, 1, 2);
    vault.power(31);
    Due.powerFails("a byte too few", () -> vault.settings(0, 0, 0, 1));
    vault.reopen();
    Due.is("as before", 2, () -> vault.told(3));
    vault.power(32);
    Due.powerFails("all bytes", () -> vault.settings(0, 0, 0, 1));
    vault.reopen();
    Due.is("set", 1, () -> vault.told(3));
    Vaults.append(vault, 3, 1, 2);
    vault.settings(3, 1, 0, 0);
    vault.reopen();
    Vaults.append(vault, 3, 3);
    Due.is("most lasts", 4, () -> vault.read(3, 0, 0, false));
  }

  private static void smallestAndLargest() {
    EventVault vault = Vaults.with(0, 1, 2, 3);
    int largest = Integer.MAX_VALUE;
    Due.is("all 0", 0, () -> vault.settings(0, 0, 0, 0));
    Due.is("the largest most", 0, () -> vault.settings(0, largest, 0, 0));
    Due.is("the largest age", 0, () -> vault.settings(0, 0, largest, 0));
    vault.tick(1000);
    Due.is("nothing is so old", 3, () -> vault.told(3));
    Due.is("the largest from", 3, () -> vault.settings(0, 0, 0, largest));
    Due.is("all the largest, of an empty stream", 0, () -> vault.settings(1, largest, largest, largest));
    Due.is("all the largest, of the last one", 0, () -> vault.settings(39, largest, largest, largest));
    Vaults.append(vault, 1, 1, 2);
    Due.is("hidden as they come", 2, () -> vault.settings(1, 0, 0, 0));
    EventVault most = Vaults.with(31, 1);
    Due.is("most 1 of one", 0, () -> most.settings(31, 1, 0, 0));
    Due.is("from 1 of one", 1, () -> most.settings(31, 0, 0, 1));
  }

  /** Each number by one less, the same, and one more: five events, of which number 2 came as TIME was 10. */
  private static void edgeOfEach() {
    for (int by = -1; by <= 1; by++) {
      int more = by;
      Due.is("from 2, and " + by, 2 + by, () -> atTime20().settings(0, 0, 0, 2 + more));
      Due.is("most 3, and " + by, 2 - by, () -> atTime20().settings(0, 3 + more, 0, 0));
      Due.is("age 10, and " + by, 3 - by, () -> atTime20().settings(0, 0, 10 + more, 0));
    }
    EventVault now = atTime20();
    Due.is("age 1 hides what came before", 4, () -> now.settings(0, 0, 1, 0));
    Due.is("but not what came at this time", 4, () -> now.event(4, 1));
    EventVault none = atTime20();
    Due.is("age 0 is none", 0, () -> none.settings(0, 0, 0, 0));
    Due.is("most as the version", 1, () -> none.settings(0, 4, 0, 0));
    Due.is("from as the version", 4, () -> none.settings(0, 0, 0, 4));
    Due.is("from one more", 5, () -> none.settings(0, 0, 0, 5));
  }

  private static EventVault atTime20() {
    EventVault vault = Vaults.with(0, 1);
    vault.tick(9);
    Vaults.append(vault, 0, 2);
    vault.tick(1);
    Vaults.append(vault, 0, 3);
    vault.tick(1);
    Vaults.append(vault, 0, 4);
    vault.tick(9);
    Vaults.append(vault, 0, 5);
    return vault;
  }

  private static void refusedChangesNothing() {
    EventVault vault = Vaults.busy();
    int[] noStreams = {-1, -2, 40, Integer.MIN_VALUE, Integer.MAX_VALUE};
    for (int stream : noStreams) {
      Due.badArgument("stream " + stream, vault, () -> vault.settings(stream, 1, 1, 1));
    }
    int[] below = {-1, Integer.MIN_VALUE};
    for (int number : below) {
      Due.badArgument("most " + number, vault, () -> vault.settings(0, number, 1, 2));
      Due.badArgument("age " + number, vault, () -> vault.settings(0, 1, number, 2));
      Due.badArgument("from " + number, vault, () -> vault.settings(0, 1, 1, number));
    }
    Due.badState("ended", vault, () -> vault.settings(5, 1, 1, 1));
    EventVault off = Vaults.busyAndOff();
    Due.badState("off", off, () -> off.settings(0, 1, 1, 1));
    EventVault full = Vaults.busyAndFull(24);
    Due.badState("the disk is full", full, () -> full.settings(0, 1, 0, 0));
    full.power(0);
    Due.badState("full, so power does not fail", full, () -> full.settings(0, 1, 0, 0));
    EventVault fits = Vaults.busyAndFull(32);
    Due.is("just so much room", 3, () -> fits.settings(0, 1, 0, 0));
    Due.is("none is left", 0, () -> Vaults.free(fits));
  }

  /** What a refused call would have set would hide as soon as more is done. */
  private static void refusedSetsNothing() {
    EventVault vault = Vaults.with(0, 1, 2, 3);
    Due.badArgument("most, and a wrong from", () -> vault.settings(0, 1, 0, -1));
    Due.badArgument("from, and a wrong age", () -> vault.settings(0, 0, -1, 2));
    Vaults.fillUp(vault, 24);
    Due.badState("most, and no room", () -> vault.settings(0, 1, 0, 0));
    Due.badState("age, and no room", () -> vault.settings(0, 0, 1, 0));
    Due.badState("from, and no room", () -> vault.settings(0, 0, 0, 2));
    vault.scavenge();
    vault.power(31);
    Due.powerFails("cut", () -> vault.settings(0, 1, 1, 2));
    vault.reopen();
    vault.tick(1);
    Vaults.append(vault, 0, 4);
    Due.is("all are visible", 4, () -> vault.told(3));
  }

  /** What was hidden by a number that is 0 then, or by a time, or as more came, stays so. */
  private static void forEver() {
    EventVault aged = Vaults.with(0, 1, 2);
    aged.settings(0, 0, 3, 0);
    aged.tick(3);
    Due.is("by a tick", 2, () -> aged.settings(0, 0, 0, 0));
    EventVault pushed = Vaults.with(0, 1, 2);
    pushed.settings(0, 2, 0, 0);
    Vaults.append(pushed, 0, 3);
    Due.is("by what came", 1, () -> pushed.settings(0, 0, 0, 0));
    pushed.scavenge();
    pushed.reopen();
    Due.is("scavenged", 1, () -> pushed.settings(0, 0, 0, 0));
    EventVault late = Vaults.with(0, 1);
    late.settings(0, 0, 0, 3);
    Vaults.append(late, 0, 2);
    late.settings(0, 0, 0, 0);
    late.reopen();
    Due.is("as it came", 2, () -> late.settings(0, 0, 0, 0));
    Due.is("not what comes then", 2, () -> Vaults.append(late, 0, 3));
    Due.is("which is visible", 2, () -> late.read(0, 0, 0, false));
    late.power(0);
    Due.powerFails("cut", () -> late.settings(0, 0, 0, 9));
    late.reopen();
    Due.is("hidden by none that was cut", 1, () -> late.told(3));
  }
}
