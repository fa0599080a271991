public final class Promise05EndTest {
  public static void main(String[] args) {
    ends();
    wrongCalls();
    powerFails();
    streamsThatEnd();
    refusedChangesNothing();
    Due.end();
  }

  private static void ends() {
    EventVault all = Vaults.with(0, 1, 2, 3);
    Due.is("three were visible", 3, () -> all.end(0));
    EventVault vault = Vaults.with(0, 1, 2, 3);
    Vaults.append(vault, 31, 4);
    vault.settings(0, 2, 0, 0);
    int before = vault.told(4);
    Due.is("two were visible", 2, () -> vault.end(0));
    Due.is("bytes", before + 32, () -> vault.told(4));
    Due.is("ended", 1, () -> vault.told(200));
    Due.is("others are not", 0, () -> vault.told(231));
    Due.is("its version stays", 2, () -> vault.told(100));
    Due.is("visible of others", 1, () -> vault.told(3));
    Due.missing("a hidden event", () -> vault.event(2, 0));
    Due.is("the last of them", 1, () -> vault.end(31));
    Due.is("an empty one", 0, () -> vault.end(5));
    vault.reopen();
    Due.is("it lasts", 1, () -> vault.told(205));
    Due.badState("append", () -> Vaults.append(vault, 5, 1));
  }

  private static void wrongCalls() {
    EventVault vault = new EventVault();
    Due.badArgument("stream -1", () -> vault.end(-1));
    Due.badArgument("stream 32", () -> vault.end(32));
    vault.end(0);
    Due.badState("ended", () -> vault.end(0));
    EventVault off = Vaults.off();
    Due.badState("off", () -> off.end(0));
    Due.badArgument("off, and no such stream", () -> off.end(32));
    EventVault full = Vaults.almostFull(24);
    Due.badState("the disk is full", () -> full.end(0));
    Due.is("it is not ended", 0, () -> full.told(200));
    EventVault fits = Vaults.almostFull(32);
    Due.is("just so much room", 0, () -> fits.end(0));
  }

  private static void powerFails() {
    EventVault vault = Vaults.with(0, 1, 2);
    vault.power(31);
    Due.powerFails("a byte too few", () -> vault.end(0));
    vault.reopen();
    Due.is("not ended", 0, () -> vault.told(200));
    Due.is("visible", 2, () -> vault.told(3));
    vault.power(32);
    Due.powerFails("all bytes", () -> vault.end(0));
    vault.reopen();
    Due.is("ended", 1, () -> vault.told(200));
    Due.is("hidden", 0, () -> vault.told(3));
  }

  private static void streamsThatEnd() {
    EventVault vault = new EventVault();
    Due.is("the first, empty", 0, () -> vault.end(0));
    Due.is("the last, empty", 0, () -> vault.end(31));
    Vaults.append(vault, 1, 1);
    Due.is("one", 1, () -> vault.end(1));
    Vaults.append(vault, 2, 1, 2);
    vault.settings(2, 0, 0, 2);
    Due.is("with none that is visible", 0, () -> vault.end(2));
    Vaults.append(vault, 3, 1, 2, 3, 4, 5, 6, 7, 8);
    Vaults.append(vault, 4, 9);
    Due.is("eight, and another stream's stays", 8, () -> vault.end(3));
    Due.is("which is visible", 1, () -> vault.told(3));
    Due.is("ended ones", 5, () -> {
      int ended = 0;
      for (int stream = 0; stream < 40; stream++) {
        ended += vault.told(200 + stream);
      }
      return ended;
    });
  }

  private static void refusedChangesNothing() {
    EventVault vault = Vaults.busy();
    int[] noStreams = {-1, 32, 33, 39, 40, Integer.MIN_VALUE, Integer.MAX_VALUE};
    for (int stream : noStreams) {
      Due.badArgument("stream " + stream, vault, () -> vault.end(stream));
    }
    Due.badState("ended", vault, () -> vault.end(5));
    EventVault off = Vaults.busyAndOff();
    Due.badState("off", off, () -> off.end(0));
    EventVault full = Vaults.busyAndFull(24);
    Due.badState("the disk is full", full, () -> full.end(0));
    full.power(0);
    Due.badState("full, so power does not fail", full, () -> full.end(0));
    EventVault fits = Vaults.busyAndFull(32);
    Due.is("just so much room", 3, () -> fits.end(0));
    Due.is("none is left", 0, () -> Vaults.free(fits));
  }
}
