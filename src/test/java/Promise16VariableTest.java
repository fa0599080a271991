public final class Promise16VariableTest {
  public static void main(String[] args) {
    EventVault vault = Vaults.with(31, 1);
    Vaults.project(vault, 7, 1, 0, 6, 3, 0, -5, 6, 0);
    Due.is("0 at first", 0, () -> vault.variable(7, 31, 3));
    vault.step(7);
    Due.is("the last of the last", 10, () -> vault.variable(7, 31, 3));
    Due.is("the first of the last", -5, () -> vault.variable(7, 31, 0));
    Due.is("one that was not put", 0, () -> vault.variable(7, 31, 1));
    Due.is("another stream's", 0, () -> vault.variable(7, 0, 3));
    Due.missing("not made", () -> vault.variable(0, 0, 0));
    Due.missing("projection -1", () -> vault.variable(-1, 0, 0));
    Due.missing("projection 8", () -> vault.variable(8, 0, 0));
    Due.missing("not made, and no such variable", () -> vault.variable(0, 0, 4));
    Due.badArgument("stream -1", () -> vault.variable(7, -1, 0));
    Due.badArgument("stream 32", () -> vault.variable(7, 32, 0));
    Due.badArgument("variable -1", () -> vault.variable(7, 0, -1));
    Due.badArgument("variable 4", () -> vault.variable(7, 0, 4));
    Vaults.turnOff(vault);
    Due.badState("off", () -> vault.variable(7, 31, 3));
    Due.badState("off, and no such projection", () -> vault.variable(8, 31, 3));
    vault.reopen();
    Due.is("it lasts", 10, () -> vault.variable(7, 31, 3));
    Due.end();
  }
}
