public final class Promise21CheckTest {
  public static void main(String[] args) {
    EventVault vault = new EventVault();
    Due.is("new", 0, vault::check);
    Vaults.append(vault, 0, 1, 2, 3);
    vault.settings(0, 0, 0, 1);
    Due.is("with records", 0, vault::check);
    vault.power(100);
    Due.powerFails("an append", () -> Vaults.append(vault, 0, 4, 5, 6, 7));
    Due.is("with bytes behind the last record", 0, vault::check);
    vault.reopen();
    Due.is("without them", 0, vault::check);
    vault.power(10);
    Due.powerFails("a scavenge", vault::scavenge);
    Due.is("a scavenge that was cut", 0, vault::check);
    vault.reopen();
    vault.scavenge();
    Due.is("a scavenge", 0, vault::check);
    Due.is("it changes nothing", 136, () -> vault.told(4));
    atEachByte();
    emptyAndFull();
    Due.end();
  }

  /** Bytes behind the last record are wrong neither while it is off nor behind that. */
  private static void atEachByte() {
    for (int bytes = 0; bytes <= 73; bytes++) {
      int k = bytes;
      EventVault vault = Vaults.busy();
      vault.power(k);
      Due.powerFails("an append behind " + k, () -> Vaults.append(vault, 0, 70, 71));
      Due.unchanged("check while off behind " + k, vault, () -> Due.is("off behind " + k, 0, vault::check));
      vault.reopen();
      Due.unchanged("check on behind " + k, vault, () -> Due.is("on behind " + k, 0, vault::check));
    }
  }

  private static void emptyAndFull() {
    EventVault vault = new EventVault();
    Due.unchanged("check of none", vault, () -> Due.is("none", 0, vault::check));
    Vaults.turnOff(vault);
    Due.is("none, and off", 0, vault::check);
    EventVault full = Vaults.busyAndFull(0);
    Due.unchanged("check of a full disk", full, () -> Due.is("full", 0, full::check));
    Due.badState("a tick that is refused", () -> full.tick(1));
    Due.is("refused", 0, full::check);
    full.scavenge();
    Due.is("scavenged", 0, full::check);
  }
}
