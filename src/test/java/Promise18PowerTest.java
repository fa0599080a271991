public final class Promise18PowerTest {
  public static void main(String[] args) {
    wrongCalls();
    everyByte();
    nextRecordOnly();
    toldAgain();
    whileOff();
    Due.end();
  }

  private static void wrongCalls() {
    EventVault vault = new EventVault();
    Due.badArgument("-2", Due.call(() -> vault.power(-2)));
    Due.badArgument("70001", Due.call(() -> vault.power(70001)));
    Due.is("the least", 0, Due.call(() -> vault.power(-1)));
    Due.is("the highest", 0, Due.call(() -> vault.power(70000)));
    vault.power(0);
    Due.badArgument("wrong, so what was told stands", Due.call(() -> vault.power(70001)));
    Due.powerFails("as was told", () -> vault.tick(1));
  }

  /** An append of two events has 72 bytes. */
  private static void everyByte() {
    for (int k = 0; k <= 80; k++) {
      EventVault vault = Vaults.with(0, 1);
      vault.power(k);
      int lasts = k >= 72 ? 1 : 0;
      String what = "behind " + k;
      Due.powerFails(what, () -> Vaults.append(vault, 0, 2, 3));
      Due.is(what + ": off", 0, () -> vault.told(0));
      Due.is(what + ": bytes", 48 + 72 * lasts, () -> vault.told(4));
      Due.is(what + ": records", 1 + lasts, () -> vault.told(7));
      Due.is(what + ": check", 0, vault::check);
      Due.is(what + ": positions", 1 + 2 * lasts, vault::reopen);
      Due.is(what + ": check again", 0, vault::check);
      Due.is(what + ": goes on", 1 + 2 * lasts, () -> Vaults.append(vault, 0, 9));
    }
  }

  private static void nextRecordOnly() {
    EventVault vault = Vaults.with(0, 1);
    vault.group(0, 0, 0, 9);
    vault.power(0);
    vault.told(4);
    vault.read(0, 0, 0, false);
    vault.draft(1, 0, 0);
    vault.append(0, -1);
    vault.take(0);
    vault.refuse(0, 0);
    vault.code(19, 0);
    Due.badState("what is refused has no record", () -> vault.append(0, 5));
    Due.is("on till now", 1, () -> vault.told(0));
    Due.powerFails("the next record", () -> vault.projection(0, 0, 0, false));
    vault.reopen();
    Due.is("it does not fail again", 0, () -> vault.tick(1));
  }

  private static void toldAgain() {
    EventVault vault = new EventVault();
    vault.power(0);
    vault.power(-1);
    Due.is("not", 0, () -> vault.tick(1));
    vault.power(0);
    vault.power(32);
    Due.powerFails("the last told", () -> vault.tick(1));
    vault.reopen();
    Due.is("lasted", 2, () -> vault.told(1));
  }

  private static void whileOff() {
    EventVault vault = Vaults.off();
    vault.power(5);
    vault.reopen();
    Due.is("forgotten", 0, () -> vault.tick(1));
    vault.power(5);
    vault.reopen();
    Due.is("forgotten, too, when it was on", 0, () -> vault.tick(1));
    Vaults.turnOff(vault);
    Due.badArgument("71000 while off", Due.call(() -> vault.power(71000)));
  }
}
