public final class Promise14ProjectionTest {
  public static void main(String[] args) {
    masks();
    anew();
    jumps();
    wrongCalls();
    full();
    powerFails();
    Due.end();
  }

  private static EventVault threeEvents() {
    EventVault vault = new EventVault();
    vault.draft(1, 0, 10);
    vault.append(0, -1);
    vault.draft(2, 3, 20);
    vault.append(31, -1);
    vault.draft(3, 15, 30);
    vault.append(31, -2);
    return vault;
  }

  private static void masks() {
    EventVault vault = threeEvents();
    vault.code(19, 0);
    int before = vault.told(4);
    Due.is("one instruction", 1, () -> vault.projection(0, 1 << 31, -1, false));
    Due.is("bytes", before + 32, () -> vault.told(4));
    Due.is("the program is empty then", 0, () -> vault.told(6));
    Due.is("the first of stream 31", 1, () -> vault.step(0));
    vault.code(19, 0);
    vault.code(19, 0);
    Due.is("two instructions", 2, () -> vault.projection(7, -1, 1 << 15 | 1 << 16, true));
    Due.is("the first of type 15", 2, () -> vault.step(7));
    vault.code(19, 0);
    vault.projection(1, 1, 1 << 3, false);
    Due.is("none of both", -1, () -> vault.step(1));
    vault.code(19, 0);
    vault.projection(2, 0, -1, false);
    Due.is("no streams", -1, () -> vault.step(2));
    vault.code(19, 0);
    vault.projection(3, -1, 1 << 16, false);
    Due.is("no types but bits that say nothing", -1, () -> vault.step(3));
  }

  private static void anew() {
    EventVault vault = threeEvents();
    Vaults.project(vault, 0, 1, 0, 6, 0, 0, 9, 18, 4);
    vault.step(0);
    vault.step(0);
    Due.is("a variable", 20, () -> vault.variable(0, 31, 0));
    Vaults.project(vault, 0, 14, 0);
    Due.is("variables are 0", 0, () -> vault.variable(0, 31, 0));
    Due.is("cursor", 0, () -> vault.told(600));
    Due.is("another program", -2, () -> vault.step(0));
    Due.is("broken", 1, () -> vault.told(700));
    Vaults.project(vault, 0, 0, 9, 18, 4);
    Due.is("not broken", 0, () -> vault.told(700));
    Due.is("from the first on", 0, () -> vault.step(0));
    Due.is("emits once more", 2, () -> vault.told(132));
    Due.is("with the same id", 0, () -> vault.event(5, 2));
  }

  private static void jumps() {
    EventVault vault = new EventVault();
    vault.code(16, 2);
    vault.code(19, 0);
    Due.is("behind the last", 2, () -> vault.projection(0, -1, -1, false));
    vault.code(17, 0);
    Due.is("to the first", 1, () -> vault.projection(0, -1, -1, false));
    int[] ops = {16, 17};
    for (int op : ops) {
      vault.reopen();
      vault.code(op, 2);
      Due.badArgument(op + " too far", () -> vault.projection(1, -1, -1, false));
      vault.code(19, 0);
      Due.is(op + " far no more", 2, () -> vault.projection(1, -1, -1, false));
      vault.code(op, -1);
      Due.badArgument(op + " below 0", () -> vault.projection(1, -1, -1, false));
      Due.is("the program stays", 1, () -> vault.told(6));
    }
  }

  private static void wrongCalls() {
    EventVault vault = new EventVault();
    Due.badArgument("an empty program", () -> vault.projection(0, -1, -1, false));
    vault.code(19, 0);
    Due.badArgument("projection -1", () -> vault.projection(-1, -1, -1, false));
    Due.badArgument("projection 8", () -> vault.projection(8, -1, -1, false));
    Due.is("the program stays", 1, () -> vault.told(6));
    EventVault off = Vaults.off();
    Due.badArgument("off, and an empty program", () -> off.projection(0, -1, -1, false));
    off.code(19, 0);
    Due.badState("off", () -> off.projection(0, -1, -1, false));
    Due.is("the program stays while off", 1, () -> off.told(6));
  }

  private static void full() {
    EventVault vault = Vaults.almostFull(32);
    vault.code(19, 0);
    vault.code(19, 0);
    Due.badState("the disk is full", () -> vault.projection(0, -1, -1, false));
    Due.is("the program stays", 2, () -> vault.told(6));
    Due.is("not made", -1, () -> vault.told(600));
    EventVault fits = Vaults.almostFull(40);
    fits.code(19, 0);
    fits.code(19, 0);
    Due.is("just so much room", 2, () -> fits.projection(0, -1, -1, false));
  }

  private static void powerFails() {
    EventVault vault = Vaults.with(0, 1);
    vault.power(31);
    Due.powerFails("a byte too few", () -> Vaults.project(vault, 0, 19, 0));
    Due.is("the program is empty", 0, () -> vault.told(6));
    vault.reopen();
    Due.is("not made", -1, () -> vault.told(600));
    vault.power(32);
    Due.powerFails("all bytes", () -> Vaults.project(vault, 0, 19, 0));
    vault.reopen();
    Due.is("made", 0, () -> vault.told(600));
    vault.step(0);
    vault.power(31);
    Due.powerFails("not made anew", () -> Vaults.project(vault, 0, 19, 0));
    vault.reopen();
    Due.is("cursor as before", 1, () -> vault.told(600));
  }
}
