public final class Promise20ToldTest {
  public static void main(String[] args) {
    EventVault vault = Vaults.with(0, 1, 2, 3);
    Vaults.append(vault, 31, 4);
    vault.tick(9);
    vault.end(31);
    vault.group(7, -1, 0, 0);
    vault.take(7);
    vault.take(7);
    vault.take(7);
    vault.acknowledge(7, 0);
    vault.refuse(7, 1);
    Vaults.project(vault, 7, 19, 0);
    vault.step(7);
    Vaults.project(vault, 3, 1, 0, 18, 0, 14, 0);
    vault.step(3);
    vault.draft(9, 0, 0);
    vault.draft(9, 0, 0);
    vault.code(0, 0);
    int bytes = 96 + 48 + 32 + 32 + 32 + 32 + 24 + 32 + 56 + 48 + 24;
    int[] asked = {0, 1, 2, 3, 4, 5, 6, 7, 100, 101, 131, 139, 200, 231, 239, 300, 307, 400, 407, 507, 603, 607, 703,
        707, 700};
    int[] want = {1, 9, 4, 3, bytes, 2, 1, 11, 2, -1, 0, -1, 0, 1, 0, -1, 1, -1, 1, 1, 0, 1, 1, 0, -1};
    for (int i = 0; i < asked.length; i++) {
      int what = asked[i];
      Due.is("told(" + what + ")", want[i], () -> vault.told(what));
    }
    vault.settings(0, 0, 0, 3);
    Due.is("out, hidden or not", 1, () -> vault.told(307));
    Due.is("done, visible", 0, () -> vault.told(407));
    Due.is("parked, visible", 0, () -> vault.told(507));
    Due.is("visible", 0, () -> vault.told(3));
    wrong(vault);
    whileOff(vault);
    everyNumber();
    eachCount();
    whileOffEach();
    ofTheMost();
    Due.end();
  }

  private static void wrong(EventVault vault) {
    int[] none = {-1, 8, 99, 140, 199, 240, 299, 308, 399, 408, 508, 608, 708, 799, 800, 1000, Integer.MAX_VALUE, -99,
        -100, -300, Integer.MIN_VALUE};
    for (int what : none) {
      Due.badArgument("told(" + what + ")", () -> vault.told(what));
    }
  }

  private static void whileOff(EventVault vault) {
    int bytes = vault.told(4);
    int records = vault.told(7);
    Vaults.turnOff(vault);
    vault.draft(1, 0, 0);
    vault.code(0, 0);
    vault.code(0, 0);
    Due.is("off", 0, () -> vault.told(0));
    Due.is("bytes while off", bytes, () -> vault.told(4));
    Due.is("draft while off", 1, () -> vault.told(5));
    Due.is("program while off", 2, () -> vault.told(6));
    Due.is("records while off", records, () -> vault.told(7));
    int[] silent = {1, 2, 3, 100, 139, 200, 239, 300, 307, 407, 507, 607, 707};
    for (int what : silent) {
      Due.is("off, told(" + what + ")", -1, () -> vault.told(what));
    }
    wrong(vault);
  }

  /** Every number from -1000 to 1100 is one of those that the document names, or none. */
  private static void everyNumber() {
    EventVault vault = Vaults.busy();
    for (int asked = -1000; asked <= 1100; asked++) {
      int what = asked;
      boolean streams = what >= 100 && what < 140 || what >= 200 && what < 240;
      boolean others = what >= 300 && what < 800 && what % 100 < 8;
      if (what >= 0 && what < 8 || streams || others) {
        Due.is("told(" + what + ") answers", 1, () -> vault.told(what) >= -1 ? 1 : 0);
      } else {
        Due.badArgument("told(" + what + ")", () -> vault.told(what));
      }
    }
    int[] far = {Integer.MIN_VALUE, Integer.MIN_VALUE + 96, Integer.MIN_VALUE + 100, Integer.MAX_VALUE - 47,
        Integer.MAX_VALUE, 65536, 65636, 1 << 30};
    for (int what : far) {
      Due.badArgument("told(" + what + ")", vault, () -> vault.told(what));
    }
  }

  /** Each stream, group and projection has its own. */
  private static void eachCount() {
    EventVault vault = new EventVault();
    int[] streams = {0, 1, 30, 31};
    for (int i = 0; i < streams.length; i++) {
      for (int id = 0; id <= i; id++) {
        Vaults.append(vault, streams[i], id);
      }
      Due.is("version of one more", i, versionOf(vault, streams[i]));
    }
    Due.is("version without", -1, versionOf(vault, 2));
    Due.is("version of a projection's without", -1, versionOf(vault, 32));
    int[] ended = {1, 31};
    for (int stream : ended) {
      vault.end(stream);
    }
    for (int asked = 0; asked < 40; asked++) {
      int stream = asked;
      int want = stream == 1 || stream == 31 ? 1 : 0;
      Due.is("ended " + stream, want, () -> vault.told(200 + stream));
    }
    for (int asked = 0; asked < 8; asked++) {
      int n = asked;
      Due.is("not made: out " + n, -1, () -> vault.told(300 + n));
      Due.is("not made: done " + n, -1, () -> vault.told(400 + n));
      Due.is("not made: parked " + n, -1, () -> vault.told(500 + n));
      Due.is("not made: cursor " + n, -1, () -> vault.told(600 + n));
      Due.is("not made: broken " + n, -1, () -> vault.told(700 + n));
      vault.group(n, 30, 0, 0);
      vault.take(n);
      vault.take(n);
      vault.take(n);
      vault.acknowledge(n, 3);
      vault.refuse(n, 4);
      Vaults.project(vault, n, n == 5 ? 14 : 19, 0);
      vault.step(n);
      Due.is("out " + n, 1, () -> vault.told(300 + n));
      Due.is("done " + n, 1, () -> vault.told(400 + n));
      Due.is("parked " + n, 1, () -> vault.told(500 + n));
      Due.is("cursor " + n, n == 5 ? 0 : 1, () -> vault.told(600 + n));
      Due.is("broken " + n, n == 5 ? 1 : 0, () -> vault.told(700 + n));
    }
    int[] want = {1, 0, 10, 4};
    for (int i = 0; i < want.length; i++) {
      int what = i;
      Due.is("of all, " + what, want[what], () -> vault.told(what));
    }
    vault.settings(30, 0, 0, 3);
    for (int asked = 0; asked < 8; asked++) {
      int g = asked;
      Due.is("hidden, and out " + g, 1, () -> vault.told(300 + g));
      Due.is("hidden, so not done " + g, 0, () -> vault.told(400 + g));
      Due.is("hidden, so not parked " + g, 0, () -> vault.told(500 + g));
    }
  }

  private static Due.Call versionOf(EventVault vault, int stream) {
    return () -> vault.told(100 + stream);
  }

  /** Told of all that can be asked while it is off, made or not. */
  private static void whileOffEach() {
    EventVault vault = Vaults.busy();
    int bytes = vault.told(4);
    int records = vault.told(7);
    Vaults.turnOff(vault);
    for (int i = 0; i < 8; i++) {
      vault.draft(i, 0, 0);
    }
    for (int i = 0; i < 64; i++) {
      vault.code(19, 0);
    }
    int[] loud = {0, -1, -1, -1, bytes, 8, 64, records};
    int[] most = {8, 40, 40, 8, 8, 8, 8, 8};
    for (int hundreds = 0; hundreds < 8; hundreds++) {
      for (int which = 0; which < most[hundreds]; which++) {
        int what = 100 * hundreds + which;
        Due.is("off, told(" + what + ")", what < 8 ? loud[what] : -1, () -> vault.told(what));
      }
      int behind = 100 * hundreds + most[hundreds];
      Due.badArgument("off, told(" + behind + ")", vault, () -> vault.told(behind));
    }
    Due.badArgument("off, told(-1)", vault, () -> vault.told(-1));
    vault.reopen();
    Due.is("on", 1, () -> vault.told(0));
    Due.is("no draft", 0, () -> vault.told(5));
    Due.is("no program", 0, () -> vault.told(6));
  }

  /** More calls than an object is promised for. */
  private static void ofTheMost() {
    EventVault vault = Vaults.most();
    vault.group(7, -1, 2496, 0);
    for (int i = 0; i < 4; i++) {
      vault.take(7);
    }
    vault.acknowledge(7, 2499);
    vault.refuse(7, 2498);
    Due.is("positions", 2500, () -> vault.told(2));
    Due.is("visible", 4, () -> vault.told(3));
    Due.is("version", 2495, () -> vault.told(100));
    Due.is("out", 2, () -> vault.told(307));
    Due.is("done", 1, () -> vault.told(407));
    Due.is("parked", 1, () -> vault.told(507));
    Vaults.project(vault, 7, 19, 0);
    for (int i = 0; i < 4; i++) {
      vault.step(7);
    }
    Due.is("cursor", 2500, () -> vault.told(607));
    Vaults.fillUp(vault, 0);
    Due.is("bytes", 100000, () -> vault.told(4));
  }
}
