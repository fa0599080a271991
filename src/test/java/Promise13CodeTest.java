public final class Promise13CodeTest {
  public static void main(String[] args) {
    EventVault vault = new EventVault();
    Due.badArgument("op -1", () -> vault.code(-1, 0));
    Due.badArgument("op 20", () -> vault.code(20, 0));
    for (int op = 5; op <= 6; op++) {
      int variable = op;
      Due.badArgument(op + " -1", () -> vault.code(variable, -1));
      Due.badArgument(op + " 4", () -> vault.code(variable, 4));
    }
    Due.badArgument("18 -1", () -> vault.code(18, -1));
    Due.badArgument("18 16", () -> vault.code(18, 16));
    Due.is("none was put", 0, () -> vault.told(6));
    Due.is("5 3", 1, () -> vault.code(5, 3));
    Due.is("6 0", 2, () -> vault.code(6, 0));
    Due.is("18 15", 3, () -> vault.code(18, 15));
    Due.is("0 with any number", 4, () -> vault.code(0, Integer.MIN_VALUE));
    Due.is("jumps are looked at later", 5, () -> vault.code(16, -9));
    Due.is("others take any number", 6, () -> vault.code(19, 99));
    for (int i = 7; i <= 64; i++) {
      vault.code(14, -1);
    }
    Due.is("64", 64, () -> vault.told(6));
    Due.badState("a 65th", () -> vault.code(0, 0));
    Due.badArgument("a 65th that is none", () -> vault.code(20, 0));
    Due.is("no record", 0, () -> vault.told(7));
    Vaults.turnOff(vault);
    Due.is("empty as it is off", 0, () -> vault.told(6));
    Due.is("while off", 1, () -> vault.code(0, 0));
    Due.is("one while off", 1, () -> vault.told(6));
    vault.reopen();
    Due.is("empty by reopen", 0, () -> vault.told(6));
    Due.end();
  }
}
