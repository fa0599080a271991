public final class Promise01NewObjectTest {
  public static void main(String[] args) {
    EventVault vault = new EventVault();
    Due.is("is it on", 1, () -> vault.told(0));
    for (int what = 1; what <= 7; what++) {
      int asked = what;
      Due.is("told(" + what + ")", 0, () -> vault.told(asked));
    }
    for (int s = 0; s < 40; s++) {
      int stream = s;
      Due.is("version of " + s, -1, () -> vault.told(100 + stream));
      Due.is("ended " + s, 0, () -> vault.told(200 + stream));
      Due.is("first visible of " + s, -1, () -> vault.read(stream, 0, 0, false));
    }
    for (int n = 0; n < 8; n++) {
      int made = n;
      for (int hundreds = 300; hundreds <= 700; hundreds += 100) {
        int asked = hundreds + n;
        Due.is("told(" + asked + ")", -1, () -> vault.told(asked));
      }
      Due.missing("take(" + n + ")", () -> vault.take(made));
      Due.missing("step(" + n + ")", () -> vault.step(made));
    }
    Due.missing("event(0, 0)", () -> vault.event(0, 0));
    Due.is("check()", 0, vault::check);
    twoObjectsShareNothing();
    nothingCanBeUsed();
    timeIsZero();
    Due.end();
  }

  private static void twoObjectsShareNothing() {
    EventVault one = Vaults.with(0, 1, 2);
    EventVault other = new EventVault();
    Due.is("positions of the other", 0, () -> other.told(2));
    Due.is("positions of the one", 2, () -> one.told(2));
  }

  private static void nothingCanBeUsed() {
    EventVault vault = new EventVault();
    Due.is("the first of all", -1, () -> vault.read(-1, 0, 0, false));
    Due.is("the last of all", -1, () -> vault.read(-1, Integer.MAX_VALUE, 0, true));
    Due.missing("acknowledge", vault, () -> vault.acknowledge(0, 0));
    Due.missing("refuse", vault, () -> vault.refuse(0, 0));
    Due.missing("variable", vault, () -> vault.variable(0, 0, 0));
    Due.badState("an empty draft", vault, () -> vault.append(0, -1));
    Due.badArgument("an empty program", vault, () -> vault.projection(0, -1, -1, false));
    Due.is("a group wants nothing", 0, () -> vault.group(0, -1, 0, 0));
    Due.is("and is given nothing", -1, () -> vault.take(0));
    Due.is("settings of nothing", 0, () -> vault.settings(0, 0, 0, 0));
    Due.is("an end of nothing", 0, () -> vault.end(0));
    Due.is("positions", 0, vault::reopen);
  }

  private static void timeIsZero() {
    EventVault vault = Vaults.with(0, 1);
    Due.is("the time of the first event", 0, () -> vault.event(0, 5));
    Due.is("power does not fail", 0, () -> vault.tick(1));
    Due.is("the first tick goes on from 0", 1, () -> vault.told(1));
  }
}
