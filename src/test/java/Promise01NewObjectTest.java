public final class Promise01NewObjectTest {
  public static void main(String[] args) {
    EventVault vault = new EventVault();
    Due.is("is it on", 1, () -> vault.told(0));
    for (int what = 1; what <= 7; what++) {
      int asked = what;
      Due.is("told(" + what + ")", 0, () -> vault.told(asked));
    }
    for (int s = 0; s < 40; s++) {
      int stream = s;
      Due.is("version of " + s, -1, () -> vault.told(100 + stream));
      Due.is("ended " + s, 0, () -> vault.told(200 + stream));
      Due.is("first visible of " + s, -1, () -> vault.read(stream, 0, 0, false));
    }
    for (int n = 0; n < 8; n++) {
      int made = n;
      for (int hundreds = 300; hundreds <= 700; hundreds += 100) {
        int asked = hundreds + n;
        Due.is("told(" + asked + ")", -1, () -> vault.told(asked));
      }
      Due.missing("take(" + n + ")", () -> vault.take(made));
      Due.missing("step(" + n + ")", () -> vault.step(made));
    }
    Due.missing("event(0, 0)", () -> vault.event(0, 0));
    Due.is("check()", 0, vault::check);
    twoObjectsShareNothing();
    Due.end();
  }

  private static void twoObjectsShareNothing() {
    EventVault one = Vaults.with(0, 1, 2);
    EventVault other = new EventVault();
    Due.is("positions of the other", 0, () -> other.told(2));
    Due.is("positions of the one", 2, () -> one.told(2));
  }
}
