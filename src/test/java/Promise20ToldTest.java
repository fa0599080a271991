public final class Promise20ToldTest {
  public static void main(String[] args) {
    EventVault vault = Vaults.with(0, 1, 2, 3);
    Vaults.append(vault, 31, 4);
    vault.tick(9);
    vault.end(31);
    vault.group(7, -1, 0, 0);
    vault.take(7);
    vault.take(7);
    vault.take(7);
    vault.acknowledge(7, 0);
    vault.refuse(7, 1);
    Vaults.project(vault, 7, 19, 0);
    vault.step(7);
    Vaults.project(vault, 3, 1, 0, 18, 0, 14, 0);
    vault.step(3);
    vault.draft(9, 0, 0);
    vault.draft(9, 0, 0);
    vault.code(0, 0);
    int bytes = 96 + 48 + 32 + 32 + 32 + 32 + 24 + 32 + 56 + 48 + 24;
    int[] asked = {0, 1, 2, 3, 4, 5, 6, 7, 100, 101, 131, 139, 200, 231, 239, 300, 307, 400, 407, 507, 603, 607, 703,
        707, 700};
    int[] want = {1, 9, 4, 3, bytes, 2, 1, 11, 2, -1, 0, -1, 0, 1, 0, -1, 1, -1, 1, 1, 0, 1, 1, 0, -1};
    for (int i = 0; i < asked.length; i++) {
      int what = asked[i];
      Due.is("told(" + what + ")", want[i], () -> vault.told(what));
    }
    vault.settings(0, 0, 0, 3);
    Due.is("out, hidden or not", 1, () -> vault.told(307));
    Due.is("done, visible", 0, () -> vault.told(407));
    Due.is("parked, visible", 0, () -> vault.told(507));
    Due.is("visible", 0, () -> vault.told(3));
    wrong(vault);
    whileOff(vault);
    Due.end();
  }

  private static void wrong(EventVault vault) {
    int[] none = {-1, 8, 99, 140, 199, 240, 299, 308, 399, 408, 508, 608, 708, 799, 800, 1000, Integer.MAX_VALUE, -99,
        -100, -300, Integer.MIN_VALUE};
    for (int what : none) {
      Due.badArgument("told(" + what + ")", () -> vault.told(what));
    }
  }

  private static void whileOff(EventVault vault) {
    int bytes = vault.told(4);
    int records = vault.told(7);
    Vaults.turnOff(vault);
    vault.draft(1, 0, 0);
    vault.code(0, 0);
    vault.code(0, 0);
    Due.is("off", 0, () -> vault.told(0));
    Due.is("bytes while off", bytes, () -> vault.told(4));
    Due.is("draft while off", 1, () -> vault.told(5));
    Due.is("program while off", 2, () -> vault.told(6));
    Due.is("records while off", records, () -> vault.told(7));
    int[] silent = {1, 2, 3, 100, 139, 200, 239, 300, 307, 407, 507, 607, 707};
    for (int what : silent) {
      Due.is("off, told(" + what + ")", -1, () -> vault.told(what));
    }
    wrong(vault);
  }
}
