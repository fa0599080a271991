public final class Promise14ProjectionTest {
  public static void main(String[] args) {
    masks();
    anew();
    jumps();
    wrongCalls();
    full();
    powerFails();
    oneAndSixtyFour();
    edgesOfJumps();
    eachBit();
    refusedChangesNothing();
    Due.end();
  }

  private static EventVault threeEvents() {
    EventVault vault = new EventVault();
    vault.draft(1, 0, 10);
    vault.append(0, -1);
    vault.draft(2, 3, 20);
    vault.append(31, -1);
    vault.draft(3, 15, 30);
    vault.append(31, -2);
    return vault;
  }

  private static void masks() {
    EventVault vault = threeEvents();
    vault.code(19, 0);
    int before = vault.told(4);
    Due.is("one instruction", 1, () -> vault.projection(0, 1 << 31, -1, false));
    Due.is("bytes", before + 32, () -> vault.told(4));
    Due.is("the program is empty then", 0, () -> vault.told(6));
    Due.is("the first of stream 31", 1, () -> vault.step(0));
    vault.code(19, 0);
    vault.code(19, 0);
    Due.is("two instructions", 2, () -> vault.projection(7, -1, 1 << 15 | 1 << 16, true));
    Due.is("the first of type 15", 2, () -> vault.step(7));
    vault.code(19, 0);
    vault.projection(1, 1, 1 << 3, false);
    Due.is("none of both", -1, () -> vault.step(1));
    vault.code(19, 0);
    vault.projection(2, 0, -1, false);
    Due.is("no streams", -1, () -> vault.step(2));
    vault.code(19, 0);
    vault.projection(3, -1, 1 << 16, false);
    Due.is("no types but bits that say nothing", -1, () -> vault.step(3));
  }

  private static void anew() {
    EventVault vault = threeEvents();
    Vaults.project(vault, 0, 1, 0, 6, 0, 0, 9, 18, 4);
    vault.step(0);
    vault.step(0);
    Due.is("a variable", 20, () -> vault.variable(0, 31, 0));
    Vaults.project(vault, 0, 14, 0);
    Due.is("variables are 0", 0, () -> vault.variable(0, 31, 0));
    Due.is("cursor", 0, () -> vault.told(600));
    Due.is("another program", -2, () -> vault.step(0));
    Due.is("broken", 1, () -> vault.told(700));
    Vaults.project(vault, 0, 0, 9, 18, 4);
    Due.is("not broken", 0, () -> vault.told(700));
    Due.is("from the first on", 0, () -> vault.step(0));
    Due.is("emits once more", 2, () -> vault.told(132));
    Due.is("with the same id", 0, () -> vault.event(5, 2));
  }

  private static void jumps() {
    EventVault vault = new EventVault();
    vault.code(16, 2);
    vault.code(19, 0);
    Due.is("behind the last", 2, () -> vault.projection(0, -1, -1, false));
    vault.code(17, 0);
    Due.is("to the first", 1, () -> vault.projection(0, -1, -1, false));
    int[] ops = {16, 17};
    for (int op : ops) {
      vault.reopen();
      vault.code(op, 2);
      Due.badArgument(op + " too far", () -> vault.projection(1, -1, -1, false));
      vault.code(19, 0);
      Due.is(op + " far no more", 2, () -> vault.projection(1, -1, -1, false));
      vault.code(op, -1);
      Due.badArgument(op + " below 0", () -> vault.projection(1, -1, -1, false));
      Due.is("the program stays", 1, () -> vault.told(6));
    }
  }

  private static void wrongCalls() {
    EventVault vault = new EventVault();
    Due.badArgument("an empty program", () -> vault.projection(0, -1, -1, false));
    vault.code(19, 0);
    Due.badArgument("projection -1", () -> vault.projection(-1, -1, -1, false));
    Due.badArgument("projection 8", () -> vault.projection(8, -1, -1, false));
    Due.is("the program stays", 1, () -> vault.told(6));
    EventVault off = Vaults.off();
    Due.badArgument("off, and an empty program", () -> off.projection(0, -1, -1, false));
    off.code(19, 0);
    Due.badState("off", () -> off.projection(0, -1, -1, false));
    Due.is("the program stays while off", 1, () -> off.told(6));
  }

  private static void full() {
    EventVault vault = Vaults.almostFull(32);
    vault.code(19, 0);
    vault.code(19, 0);
    Due.badState("the disk is full", () -> vault.projection(0, -1, -1, false));
    Due.is("the program stays", 2, () -> vault.told(6));
    Due.is("not made", -1, () -> vault.told(600));
    EventVault fits = Vaults.almostFull(40);
    fits.code(19, 0);
    fits.code(19, 0);
    Due.is("just so much room", 2, () -> fits.projection(0, -1, -1, false));
  }

  private static void powerFails() {
    EventVault vault = Vaults.with(0, 1);
    vault.power(31);
    Due.powerFails("a byte too few", () -> Vaults.project(vault, 0, 19, 0));
    Due.is("the program is empty", 0, () -> vault.told(6));
    vault.reopen();
    Due.is("not made", -1, () -> vault.told(600));
    vault.power(32);
    Due.powerFails("all bytes", () -> Vaults.project(vault, 0, 19, 0));
    vault.reopen();
    Due.is("made", 0, () -> vault.told(600));
    vault.step(0);
    vault.power(31);
    Due.powerFails("not made anew", () -> Vaults.project(vault, 0, 19, 0));
    vault.reopen();
    Due.is("cursor as before", 1, () -> vault.told(600));
  }

  private static void oneAndSixtyFour() {
    EventVault vault = Vaults.with(0, 1);
    int before = vault.told(4);
    Due.is("the shortest", 1, () -> Vaults.project(vault, 0, 19, 0));
    Due.is("its bytes", before + 24 + 8, () -> vault.told(4));
    Due.is("the longest", 64, () -> Vaults.project(vault, 7, new int[128]));
    Due.is("its bytes, too", before + 24 + 8 + 24 + 64 * 8, () -> vault.told(4));
    Due.is("two more records", 3, () -> vault.told(7));
    Due.is("the first of them", 0, () -> vault.told(600));
    Due.is("the last of them", 0, () -> vault.told(607));
    for (int p = 1; p < 7; p++) {
      int other = p;
      Due.is("not made " + p, -1, () -> vault.told(600 + other));
    }
    vault.code(19, 0);
    vault.code(19, 0);
    vault.reopen();
    Due.badArgument("empty by reopen", vault, () -> vault.projection(0, -1, -1, false));
    Due.is("one anew", 1, () -> Vaults.project(vault, 7, 19, 0));
    Due.is("runs no more than it has", 0, () -> vault.step(7));
  }

  /** A program of so many instructions, whose last one jumps. */
  private static void edgesOfJumps() {
    int[] lengths = {1, 2, 63, 64};
    for (int op = 16; op <= 17; op++) {
      for (int length : lengths) {
        int[] wrong = {Integer.MIN_VALUE, -1, length + 1, 100, Integer.MAX_VALUE};
        for (int to : wrong) {
          EventVault vault = jumping(op, length, to);
          Due.badArgument(op + " to " + to + " of " + length, vault, () -> vault.projection(0, -1, -1, true));
        }
        int[] right = {0, length - 1, length};
        for (int to : right) {
          EventVault vault = jumping(op, length, to);
          Due.is(op + " to " + to + " of " + length, length, () -> vault.projection(0, -1, -1, true));
        }
      }
    }
    EventVault first = Vaults.busy();
    Vaults.code(first, 17, 4, 19, 0, 19, 0);
    Due.badArgument("the first one too far", first, () -> first.projection(0, -1, -1, false));
    EventVault others = new EventVault();
    Vaults.code(others, 0, 99, 1, -1, 14, 99, 19, -1);
    Due.is("what others say is no place", 4, () -> others.projection(0, -1, -1, false));
  }

  private static EventVault jumping(int op, int length, int to) {
    EventVault vault = new EventVault();
    for (int i = 1; i < length; i++) {
      vault.code(19, 0);
    }
    vault.code(op, to);
    return vault;
  }

  /** Each STREAM and each TYPE, by its bit alone, and by all but it. */
  private static void eachBit() {
    for (int bit = 0; bit < 32; bit++) {
      EventVault vault = new EventVault();
      vault.draft(1, bit % 16, 0);
      vault.append(bit, -1);
      int here = 1 << bit;
      int type = 1 << bit % 16;
      Due.is("stream " + bit, 0, () -> stepFor(vault, here, -1));
      Due.is("all but stream " + bit, -1, () -> stepFor(vault, ~here, -1));
      Due.is("type of " + bit, 0, () -> stepFor(vault, -1, type));
      Due.is("all but type of " + bit, -1, () -> stepFor(vault, -1, ~type));
      Due.is("bits that say nothing at " + bit, -1, () -> stepFor(vault, -1, type << 16));
    }
  }

  private static int stepFor(EventVault vault, int streams, int types) {
    vault.code(19, 0);
    vault.projection(3, streams, types, false);
    return vault.step(3);
  }

  private static void refusedChangesNothing() {
    EventVault vault = Vaults.busy();
    Due.badArgument("an empty program", vault, () -> vault.projection(0, -1, -1, false));
    vault.code(1, 0);
    vault.code(6, 2);
    int[] none = {-1, 8, Integer.MIN_VALUE, Integer.MAX_VALUE};
    for (int p : none) {
      Due.badArgument("projection " + p, vault, () -> vault.projection(p, -1, -1, false));
    }
    vault.code(16, 9);
    Due.badArgument("a jump too far", vault, () -> vault.projection(0, -1, -1, false));
    EventVault off = Vaults.busyAndOff();
    off.code(19, 0);
    Due.badState("off", off, () -> off.projection(0, -1, -1, false));
    EventVault full = Vaults.busyAndFull(32);
    Vaults.code(full, 1, 0, 6, 2);
    Due.badState("the disk is full", full, () -> full.projection(0, -1, -1, false));
    full.power(0);
    Due.badState("full, so power does not fail", full, () -> full.projection(0, -1, -1, false));
    full.power(-1);
    Due.is("the one that was made goes on", 4, () -> stepAfterScavenge(full));
    Due.is("the program is as it was", 2, () -> full.projection(0, -1, -1, false));
    Due.is("anew", 1, () -> full.step(0));
    Due.is("by this program", 20, () -> full.variable(0, 0, 2));
    EventVault fits = Vaults.busyAndFull(40);
    Vaults.code(fits, 1, 0, 6, 2);
    Due.is("just so much room", 2, () -> fits.projection(0, -1, -1, false));
    Due.is("none is left", 0, () -> Vaults.free(fits));
  }

  /** PROJECTION 0 has worked POSITION 1, and works 2, 3 and 4 then. */
  private static int stepAfterScavenge(EventVault vault) {
    vault.scavenge();
    vault.step(0);
    vault.step(0);
    return vault.step(0);
  }
}
