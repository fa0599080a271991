public final class Promise13CodeTest {
  public static void main(String[] args) {
    EventVault vault = new EventVault();
    Due.badArgument("op -1", () -> vault.code(-1, 0));
    Due.badArgument("op 20", () -> vault.code(20, 0));
    for (int op = 5; op <= 6; op++) {
      int variable = op;
      Due.badArgument(op + " -1", () -> vault.code(variable, -1));
      Due.badArgument(op + " 4", () -> vault.code(variable, 4));
    }
    Due.badArgument("18 -1", () -> vault.code(18, -1));
    Due.badArgument("18 16", () -> vault.code(18, 16));
    Due.is("none was put", 0, () -> vault.told(6));
    Due.is("5 3", 1, () -> vault.code(5, 3));
    Due.is("6 0", 2, () -> vault.code(6, 0));
    Due.is("18 15", 3, () -> vault.code(18, 15));
    Due.is("0 with any number", 4, () -> vault.code(0, Integer.MIN_VALUE));
    Due.is("jumps are looked at later", 5, () -> vault.code(16, -9));
    Due.is("others take any number", 6, () -> vault.code(19, 99));
    for (int i = 7; i <= 64; i++) {
      vault.code(14, -1);
    }
    Due.is("64", 64, () -> vault.told(6));
    Due.badState("a 65th", () -> vault.code(0, 0));
    Due.badArgument("a 65th that is none", () -> vault.code(20, 0));
    Due.is("no record", 0, () -> vault.told(7));
    Vaults.turnOff(vault);
    Due.is("empty as it is off", 0, () -> vault.told(6));
    Due.is("while off", 1, () -> vault.code(0, 0));
    Due.is("one while off", 1, () -> vault.told(6));
    vault.reopen();
    Due.is("empty by reopen", 0, () -> vault.told(6));
    smallestAndLargest();
    refusedChangesNothing();
    Due.end();
  }

  private static void smallestAndLargest() {
    EventVault vault = new EventVault();
    int[] numbers = {Integer.MIN_VALUE, -1, 0, 1, 3, 4, 15, 16, 64, 65, Integer.MAX_VALUE};
    for (int op = 0; op < 20; op++) {
      int highest = op == 5 || op == 6 ? 3 : op == 18 ? 15 : Integer.MAX_VALUE;
      int lowest = op == 5 || op == 6 || op == 18 ? 0 : Integer.MIN_VALUE;
      vault.reopen();
      int taken = 0;
      for (int number : numbers) {
        int asked = op;
        if (number < lowest || number > highest) {
          Due.badArgument("code " + op + " " + number, vault, () -> vault.code(asked, number));
        } else {
          taken++;
          Due.is("code " + op + " " + number, taken, () -> vault.code(asked, number));
        }
      }
    }
  }

  private static void refusedChangesNothing() {
    EventVault vault = Vaults.busy();
    vault.code(0, 40);
    int[] none = {-1, 20, 21, Integer.MIN_VALUE, Integer.MAX_VALUE};
    for (int op : none) {
      Due.badArgument("op " + op, vault, () -> vault.code(op, 0));
    }
    Due.badArgument("5 4", vault, () -> vault.code(5, 4));
    vault.code(6, 0);
    vault.code(16, 62);
    for (int i = 4; i <= 62; i++) {
      vault.code(14, 0);
    }
    vault.code(0, 63);
    Due.is("the last", 64, () -> vault.code(6, 1));
    Due.badState("a 65th", vault, () -> vault.code(6, 0));
    Due.badArgument("a 65th, and op 20", vault, () -> vault.code(20, 0));
    Due.is("all 64 of them", 64, () -> vault.projection(1, 1 << 31, -1, false));
    Due.is("the next is the first again", 1, () -> vault.code(0, 0));
    Due.is("it runs", 4, () -> vault.step(1));
    Due.is("the first of them", 40, () -> vault.variable(1, 31, 0));
    Due.is("the last of them", 63, () -> vault.variable(1, 31, 1));
    EventVault off = Vaults.off();
    for (int i = 1; i <= 64; i++) {
      off.code(19, 0);
    }
    Due.badState("a 65th while off", off, () -> off.code(19, 0));
    Due.badArgument("op 20 while off", off, () -> off.code(20, 0));
  }
}
