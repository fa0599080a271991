public final class Promise07ReadTest {
  public static void main(String[] args) {
    EventVault vault = Vaults.with(0, 1, 2);
    Vaults.append(vault, 1, 3);
    Vaults.append(vault, 0, 4, 5);
    Vaults.project(vault, 0, 1, 0, 18, 0);
    vault.step(0);
    oneStream(vault);
    allStreams(vault);
    hidden(vault);
    wrongCalls(vault);
    theHundredth();
    edgesOfNumbers();
    edgesOfPositions();
    edgesOfI();
    refusedChangesNothing();
    theLastPosition();
    Due.end();
  }

  private static void oneStream(EventVault vault) {
    Due.is("the first", 0, () -> vault.read(0, 0, 0, false));
    Due.is("the third, behind another stream's", 3, () -> vault.read(0, 0, 2, false));
    Due.is("from number 2", 3, () -> vault.read(0, 2, 0, false));
    Due.is("below all", 0, () -> vault.read(0, Integer.MIN_VALUE, 0, false));
    Due.is("behind all", -1, () -> vault.read(0, 4, 0, false));
    Due.is("too few", -1, () -> vault.read(0, 0, 4, false));
    Due.is("back from the last", 4, () -> vault.read(0, 3, 0, true));
    Due.is("back from behind all", 4, () -> vault.read(0, Integer.MAX_VALUE, 0, true));
    Due.is("back from number 2", 1, () -> vault.read(0, 2, 1, true));
    Due.is("back to the first", 0, () -> vault.read(0, 2, 2, true));
    Due.is("back behind the first", -1, () -> vault.read(0, 2, 3, true));
    Due.is("back below all", -1, () -> vault.read(0, -1, 0, true));
    Due.is("what was emitted", 5, () -> vault.read(32, 0, 0, false));
    Due.is("nothing was", -1, () -> vault.read(39, 0, 0, true));
  }

  private static void allStreams(EventVault vault) {
    Due.is("the third", 2, () -> vault.read(-1, 0, 2, false));
    Due.is("from a position", 4, () -> vault.read(-1, 3, 1, false));
    Due.is("emitted ones too", 5, () -> vault.read(-1, 5, 0, false));
    Due.is("back", 1, () -> vault.read(-1, 3, 2, true));
    Due.is("too few back", -1, () -> vault.read(-1, 3, 4, true));
  }

  private static void hidden(EventVault vault) {
    vault.settings(0, 3, 0, 0);
    Due.is("the first visible", 1, () -> vault.read(0, 0, 0, false));
    Due.is("of all", 1, () -> vault.read(-1, 0, 0, false));
    Due.is("back to a hidden one", -1, () -> vault.read(0, 0, 0, true));
    Due.is("back past it", -1, () -> vault.read(0, 3, 3, true));
  }

  private static void wrongCalls(EventVault vault) {
    Due.badArgument("stream -2", () -> vault.read(-2, 0, 0, false));
    Due.badArgument("stream 40", () -> vault.read(40, 0, 0, false));
    Due.badArgument("i -1", () -> vault.read(0, 0, -1, false));
    Due.badArgument("i 101", () -> vault.read(0, 0, 101, true));
    EventVault off = Vaults.off();
    Due.badState("off", () -> off.read(0, 0, 0, false));
    Due.badArgument("off, and no such stream", () -> off.read(40, 0, 0, false));
  }

  private static void theHundredth() {
    EventVault vault = new EventVault();
    for (int i = 0; i < 13; i++) {
      Vaults.append(vault, 9, 8 * i, 8 * i + 1, 8 * i + 2, 8 * i + 3, 8 * i + 4, 8 * i + 5, 8 * i + 6, 8 * i + 7);
    }
    Due.is("i 100", 100, () -> vault.read(9, 0, 100, false));
    Due.is("i 100 back", 3, () -> vault.read(9, 103, 100, true));
  }

  /** NUMBERS 0 to 2 of STREAM 39, and 1 and 2 of STREAM 5 that are visible. */
  private static void edgesOfNumbers() {
    EventVault vault = Vaults.with(5, 1, 2, 3);
    Vaults.project(vault, 7, 1, 0, 18, 0);
    for (int i = 0; i < 3; i++) {
      vault.step(7);
    }
    vault.settings(5, 0, 0, 1);
    int[] from = {Integer.MIN_VALUE, -1, 0, 1, 2, 3, Integer.MAX_VALUE};
    int[] up39 = {3, 3, 3, 4, 5, -1, -1};
    int[] back39 = {-1, -1, 3, 4, 5, 5, 5};
    int[] up5 = {1, 1, 1, 1, 2, -1, -1};
    int[] back5 = {-1, -1, -1, 1, 2, 2, 2};
    for (int i = 0; i < from.length; i++) {
      int n = from[i];
      Due.is("39 up from " + n, up39[i], () -> vault.read(39, n, 0, false));
      Due.is("39 back from " + n, back39[i], () -> vault.read(39, n, 0, true));
      Due.is("5 up from " + n, up5[i], () -> vault.read(5, n, 0, false));
      Due.is("5 back from " + n, back5[i], () -> vault.read(5, n, 0, true));
      Due.is("an empty one up from " + n, -1, () -> vault.read(0, n, 0, false));
      Due.is("an empty one back from " + n, -1, () -> vault.read(0, n, 0, true));
    }
    Due.is("up to the last", 5, () -> vault.read(39, 0, 2, false));
    Due.is("up behind the last", -1, () -> vault.read(39, 0, 3, false));
    Due.is("back to the first", 3, () -> vault.read(39, 2, 2, true));
    Due.is("back behind the first", -1, () -> vault.read(39, 2, 3, true));
  }

  /** POSITIONS 1, 2 and 4 are visible, of 0 to 4. */
  private static void edgesOfPositions() {
    EventVault vault = Vaults.with(0, 1, 2);
    Vaults.append(vault, 31, 3);
    Vaults.append(vault, 7, 4);
    Vaults.append(vault, 0, 5);
    vault.settings(0, 2, 0, 0);
    vault.end(7);
    int[] from = {Integer.MIN_VALUE, -1, 0, 1, 2, 3, 4, 5, Integer.MAX_VALUE};
    int[] up = {1, 1, 1, 1, 2, 4, 4, -1, -1};
    int[] back = {-1, -1, -1, 1, 2, 2, 4, 4, 4};
    for (int i = 0; i < from.length; i++) {
      int n = from[i];
      Due.is("up from " + n, up[i], () -> vault.read(-1, n, 0, false));
      Due.is("back from " + n, back[i], () -> vault.read(-1, n, 0, true));
    }
    Due.is("up to the last", 4, () -> vault.read(-1, 0, 2, false));
    Due.is("up behind the last", -1, () -> vault.read(-1, 0, 3, false));
    Due.is("back to the first", 1, () -> vault.read(-1, 4, 2, true));
    Due.is("back behind the first", -1, () -> vault.read(-1, 4, 3, true));
    Due.is("none of an ended one", -1, () -> vault.read(7, 0, 0, false));
  }

  /** 101 are visible, of one stream and of all. */
  private static void edgesOfI() {
    EventVault vault = Vaults.with(0, 1);
    vault.end(0);
    for (int i = 0; i < 12; i++) {
      Vaults.append(vault, 9, 8 * i, 8 * i + 1, 8 * i + 2, 8 * i + 3, 8 * i + 4, 8 * i + 5, 8 * i + 6, 8 * i + 7);
    }
    Vaults.append(vault, 9, 96, 97, 98, 99);
    int[] streams = {9, -1};
    for (int stream : streams) {
      Due.is("100 of 100 in " + stream, -1, () -> vault.read(stream, 0, 100, false));
      Due.is("100 of 100 back in " + stream, -1, () -> vault.read(stream, 1000, 100, true));
      Due.is("99 of 100 in " + stream, 100, () -> vault.read(stream, 0, 99, false));
    }
    Vaults.append(vault, 9, 100);
    for (int stream : streams) {
      Due.is("100 of 101 in " + stream, 101, () -> vault.read(stream, 0, 100, false));
      Due.is("100 of 101 back in " + stream, 1, () -> vault.read(stream, 1000, 100, true));
      Due.badArgument("101 in " + stream, () -> vault.read(stream, 0, 101, false));
    }
  }

  private static void refusedChangesNothing() {
    EventVault vault = Vaults.busy();
    int[] noStreams = {-2, 40, 41, Integer.MIN_VALUE, Integer.MAX_VALUE};
    for (int stream : noStreams) {
      Due.badArgument("stream " + stream, vault, () -> vault.read(stream, 0, 0, false));
    }
    int[] noPlaces = {-1, 101, Integer.MIN_VALUE, Integer.MAX_VALUE};
    for (int i : noPlaces) {
      Due.badArgument("i " + i, vault, () -> vault.read(0, 0, i, false));
      Due.badArgument("i " + i + " back", vault, () -> vault.read(-1, 0, i, true));
    }
    EventVault off = Vaults.busyAndOff();
    Due.badState("off", off, () -> off.read(0, 0, 0, false));
    Due.badState("off, of all", off, () -> off.read(-1, 0, 0, true));
    Due.badArgument("off, and i 101", off, () -> off.read(0, 0, 101, false));
  }

  /** More calls than an object is promised for. */
  private static void theLastPosition() {
    EventVault vault = Vaults.most();
    Due.is("the last up", 2499, () -> vault.read(-1, 2499, 0, false));
    Due.is("behind the last up", -1, () -> vault.read(-1, 2500, 0, false));
    Due.is("the last back", 2499, () -> vault.read(-1, 2500, 0, true));
    Due.is("the last of its stream", 2499, () -> vault.read(31, 3, 0, false));
    Due.is("the first visible", 2496, () -> vault.read(-1, 0, 0, false));
    Due.is("none of a stream that is hidden", -1, () -> vault.read(0, 2495, 0, true));
  }
}
