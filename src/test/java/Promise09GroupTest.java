public final class Promise09GroupTest {
  public static void main(String[] args) {
    wants();
    anew();
    wrongCalls();
    powerFails();
    smallestAndLargest();
    edgesOfPositions();
    refusedChangesNothing();
    Due.end();
  }

  private static void wants() {
    EventVault vault = Vaults.with(0, 1, 2, 3);
    Vaults.append(vault, 1, 4);
    Vaults.project(vault, 1, 1, 0, 18, 0);
    vault.step(1);
    vault.settings(0, 0, 0, 1);
    Due.is("all", 4, () -> vault.group(0, -1, 0, 0));
    Due.is("all from 2 on", 3, () -> vault.group(1, -1, 2, 0));
    Due.is("a stream", 2, () -> vault.group(2, 0, 0, 9));
    Due.is("a stream from 2 on", 1, () -> vault.group(3, 0, 2, 0));
    Due.is("what was emitted", 1, () -> vault.group(4, 33, 0, 0));
    Due.is("nothing", 0, () -> vault.group(7, -1, 2500, 0));
    Due.is("none is out", 0, () -> vault.told(307));
    Due.is("the first it wants", 4, () -> vault.take(4));
    Due.is("none that it wants", -1, () -> vault.take(7));
    Due.is("bytes", 32, () -> {
      int before = vault.told(4);
      vault.group(6, 0, 0, 0);
      return vault.told(4) - before;
    });
  }

  private static void anew() {
    EventVault vault = Vaults.with(0, 1, 2, 3);
    vault.group(0, -1, 0, 0);
    vault.take(0);
    vault.take(0);
    vault.take(0);
    vault.acknowledge(0, 0);
    vault.refuse(0, 1);
    Due.is("anew", 2, () -> vault.group(0, 0, 1, 1));
    Due.is("none is out", 0, () -> vault.told(300));
    Due.is("none is done", 0, () -> vault.told(400));
    Due.is("none is parked", 0, () -> vault.told(500));
    Due.is("from 1 on", 1, () -> vault.take(0));
    Due.is("no tries from before", 0, () -> vault.refuse(0, 1));
    Due.is("a second one", 1, () -> vault.take(0));
    Due.is("parks", 1, () -> vault.refuse(0, 1));
  }

  private static void wrongCalls() {
    EventVault vault = new EventVault();
    Due.badArgument("group -1", () -> vault.group(-1, 0, 0, 0));
    Due.badArgument("group 8", () -> vault.group(8, 0, 0, 0));
    Due.badArgument("stream -2", () -> vault.group(0, -2, 0, 0));
    Due.badArgument("stream 40", () -> vault.group(0, 40, 0, 0));
    Due.badArgument("position -1", () -> vault.group(0, 0, -1, 0));
    Due.badArgument("position 2501", () -> vault.group(0, 0, 2501, 0));
    Due.badArgument("retries -1", () -> vault.group(0, 0, 0, -1));
    Due.badArgument("retries 10", () -> vault.group(0, 0, 0, 10));
    Due.is("none was made", -1, () -> vault.told(300));
    EventVault off = Vaults.off();
    Due.badState("off", () -> off.group(0, 0, 0, 0));
    Due.badArgument("off, and no such group", () -> off.group(8, 0, 0, 0));
    EventVault full = Vaults.almostFull(24);
    Due.badState("the disk is full", () -> full.group(0, 0, 0, 0));
    EventVault fits = Vaults.almostFull(32);
    Due.is("just so much room", 0, () -> fits.group(0, 39, 0, 9));
  }

  private static void powerFails() {
    EventVault vault = Vaults.with(0, 1);
    vault.power(31);
    Due.powerFails("a byte too few", () -> vault.group(0, 0, 0, 0));
    vault.reopen();
    Due.is("not made", -1, () -> vault.told(300));
    vault.power(32);
    Due.powerFails("all bytes", () -> vault.group(0, 0, 0, 0));
    vault.reopen();
    Due.is("made", 0, () -> vault.told(300));
    vault.take(0);
    vault.acknowledge(0, 0);
    vault.power(0);
    Due.powerFails("not made anew", () -> vault.group(0, 0, 0, 0));
    vault.reopen();
    Due.is("done as before", 1, () -> vault.told(400));
  }

  private static void smallestAndLargest() {
    EventVault vault = Vaults.with(0, 1);
    Due.is("all the smallest", 1, () -> vault.group(0, -1, 0, 0));
    Due.is("all the largest", 0, () -> vault.group(7, 39, 2500, 9));
    Due.is("the first stream", 1, () -> vault.group(1, 0, 0, 0));
    for (int tries = 1; tries <= 10; tries++) {
      vault.group(7, 0, 0, 9);
      for (int i = 1; i < tries; i++) {
        vault.take(7);
        vault.refuse(7, 0);
      }
      vault.take(7);
      Due.is("the largest retries, at " + tries, tries > 9 ? 1 : 0, () -> vault.refuse(7, 0));
    }
    Due.is("bytes of one made anew", 32, () -> {
      int before = vault.told(4);
      vault.group(7, 0, 0, 9);
      return vault.told(4) - before;
    });
    Due.is("one more record", 1, () -> {
      int before = vault.told(7);
      vault.group(7, 0, 0, 9);
      return vault.told(7) - before;
    });
  }

  /** Three events, of which the first is hidden. */
  private static void edgesOfPositions() {
    EventVault vault = Vaults.with(0, 1, 2, 3);
    vault.settings(0, 0, 0, 1);
    int[] want = {2, 2, 1, 0, 0};
    int[] first = {1, 1, 2, -1, -1};
    for (int from = 0; from < want.length; from++) {
      int position = from;
      Due.is("from " + from, want[from], () -> vault.group(0, -1, position, 0));
      Due.is("the first from " + from, first[from], () -> vault.take(0));
    }
    vault.group(0, -1, 3, 0);
    Vaults.append(vault, 0, 4);
    Due.is("one that came behind", 3, () -> vault.take(0));
    vault.group(1, -1, 5, 0);
    Vaults.append(vault, 0, 5, 6);
    Due.is("not the last before it", 5, () -> vault.take(1));
    vault.group(2, -1, 2500, 0);
    Due.is("none ever", -1, () -> vault.take(2));
  }

  private static void refusedChangesNothing() {
    EventVault vault = Vaults.busy();
    int[] noGroups = {-1, 8, Integer.MIN_VALUE, Integer.MAX_VALUE};
    for (int g : noGroups) {
      Due.badArgument("group " + g, vault, () -> vault.group(g, 0, 0, 0));
    }
    int[] noStreams = {-2, 40, Integer.MIN_VALUE, Integer.MAX_VALUE};
    for (int stream : noStreams) {
      Due.badArgument("stream " + stream, vault, () -> vault.group(0, stream, 0, 0));
    }
    int[] noPositions = {-1, 2501, Integer.MIN_VALUE, Integer.MAX_VALUE};
    for (int position : noPositions) {
      Due.badArgument("position " + position, vault, () -> vault.group(0, 0, position, 0));
    }
    int[] noRetries = {-1, 10, Integer.MIN_VALUE, Integer.MAX_VALUE};
    for (int retries : noRetries) {
      Due.badArgument("retries " + retries, vault, () -> vault.group(0, 0, 0, retries));
    }
    Due.is("what is out stays so", 1, () -> vault.refuse(0, 3));
    EventVault off = Vaults.busyAndOff();
    Due.badState("off", off, () -> off.group(0, 0, 0, 0));
    EventVault full = Vaults.busyAndFull(24);
    Due.badState("the disk is full", full, () -> full.group(0, 0, 0, 0));
    Due.badState("full, and a new one", full, () -> full.group(3, 0, 0, 0));
    full.power(0);
    Due.badState("full, so power does not fail", full, () -> full.group(0, 0, 0, 0));
    EventVault fits = Vaults.busyAndFull(32);
    Due.is("just so much room", 3, () -> fits.group(0, 0, 0, 0));
    Due.is("none is left", 0, () -> Vaults.free(fits));
  }
}
