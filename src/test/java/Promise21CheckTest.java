public final class Promise21CheckTest {
  public static void main(String[] args) {
    EventVault vault = new EventVault();
    Due.is("new", 0, vault::check);
    Vaults.append(vault, 0, 1, 2, 3);
    vault.settings(0, 0, 0, 1);
    Due.is("with records", 0, vault::check);
    vault.power(100);
    Due.powerFails("an append", () -> Vaults.append(vault, 0, 4, 5, 6, 7));
    Due.is("with bytes behind the last record", 0, vault::check);
    vault.reopen();
    Due.is("without them", 0, vault::check);
    vault.power(10);
    Due.powerFails("a scavenge", vault::scavenge);
    Due.is("a scavenge that was cut", 0, vault::check);
    vault.reopen();
    vault.scavenge();
    Due.is("a scavenge", 0, vault::check);
    Due.is("it changes nothing", 136, () -> vault.told(4));
    Due.end();
  }
}
