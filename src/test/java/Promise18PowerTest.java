public final class Promise18PowerTest {
  public static void main(String[] args) {
    wrongCalls();
    everyByte();
    nextRecordOnly();
    toldAgain();
    whileOff();
    everyRecord();
    largestRecord();
    refusedChangesNothing();
    staysToldTillTheNextRecord();
    Due.end();
  }

  private static void wrongCalls() {
    EventVault vault = new EventVault();
    Due.badArgument("-2", Due.call(() -> vault.power(-2)));
    Due.badArgument("70001", Due.call(() -> vault.power(70001)));
    Due.is("the least", 0, Due.call(() -> vault.power(-1)));
    Due.is("the highest", 0, Due.call(() -> vault.power(70000)));
    vault.power(0);
    Due.badArgument("wrong, so what was told stands", Due.call(() -> vault.power(70001)));
    Due.powerFails("as was told", () -> vault.tick(1));
  }

  /** An append of two events has 72 bytes. */
  private static void everyByte() {
    for (int k = 0; k <= 80; k++) {
      EventVault vault = Vaults.with(0, 1);
      vault.power(k);
      int lasts = k >= 72 ? 1 : 0;
      String what = "behind " + k;
      Due.powerFails(what, () -> Vaults.append(vault, 0, 2, 3));
      Due.is(what + ": off", 0, () -> vault.told(0));
      Due.is(what + ": bytes", 48 + 72 * lasts, () -> vault.told(4));
      Due.is(what + ": records", 1 + lasts, () -> vault.told(7));
      Due.is(what + ": check", 0, vault::check);
      Due.is(what + ": positions", 1 + 2 * lasts, vault::reopen);
      Due.is(what + ": check again", 0, vault::check);
      Due.is(what + ": goes on", 1 + 2 * lasts, () -> Vaults.append(vault, 0, 9));
    }
  }

  private static void nextRecordOnly() {
    EventVault vault = Vaults.with(0, 1);
    vault.group(0, 0, 0, 9);
    vault.power(0);
    vault.told(4);
    vault.read(0, 0, 0, false);
    vault.draft(1, 0, 0);
    vault.append(0, -1);
    vault.take(0);
    vault.refuse(0, 0);
    vault.code(19, 0);
    Due.badState("what is refused has no record", () -> vault.append(0, 5));
    Due.is("on till now", 1, () -> vault.told(0));
    Due.powerFails("the next record", () -> vault.projection(0, 0, 0, false));
    vault.reopen();
    Due.is("it does not fail again", 0, () -> vault.tick(1));
  }

  private static void toldAgain() {
    EventVault vault = new EventVault();
    vault.power(0);
    vault.power(-1);
    Due.is("not", 0, () -> vault.tick(1));
    vault.power(0);
    vault.power(32);
    Due.powerFails("the last told", () -> vault.tick(1));
    vault.reopen();
    Due.is("lasted", 2, () -> vault.told(1));
  }

  private static void whileOff() {
    EventVault vault = Vaults.off();
    vault.power(5);
    vault.reopen();
    Due.is("forgotten", 0, () -> vault.tick(1));
    vault.power(5);
    vault.reopen();
    Due.is("forgotten, too, when it was on", 0, () -> vault.tick(1));
    Vaults.turnOff(vault);
    Due.badArgument("71000 while off", Due.call(() -> vault.power(71000)));
  }

  private interface Deeds {
    void happen(EventVault vault);
  }

  /** Each kind of RECORD, with the bytes that it has. */
  private static void everyRecord() {
    cut("an append of one", 48, vault -> Vaults.append(vault, 0, 70));
    cut("an append of eight", 216, vault -> Vaults.append(vault, 9, 1, 2, 3, 4, 5, 6, 7, 8));
    cut("settings", 32, vault -> vault.settings(0, 2, 3, 0));
    cut("an end", 32, vault -> vault.end(0));
    cut("a tick that parks none", 32, vault -> vault.tick(7));
    cut("a tick that parks two of three", 48, vault -> vault.tick(8));
    cut("a group", 32, vault -> vault.group(3, -1, 0, 0));
    cut("a group made anew", 32, vault -> vault.group(0, 0, 2, 3));
    cut("an acknowledge", 32, vault -> vault.acknowledge(0, 3));
    cut("a refuse that parks", 24, vault -> vault.refuse(0, 3));
    cut("a projection", 48, vault -> Vaults.project(vault, 3, 19, 0, 19, 0, 19, 0));
    cut("a projection made anew", 32, vault -> Vaults.project(vault, 0, 19, 0));
    cut("a step that emits one", 80, vault -> vault.step(0));
    cut("a scavenge", ready().scavenge(), EventVault::scavenge);
    cut("a step that emits none", 56, vault -> vault.step(1));
    cut("a step that emits four", 152, vault -> vault.step(2));
    cut("a step that breaks", 24, vault -> vault.step(3));
  }

  /** Behind so many bytes that just miss the last one nothing lasts, and with it all does. */
  private static void cut(String what, int size, Deeds deeds) {
    EventVault left = ready();
    left.reopen();
    String before = Seen.of(left);
    EventVault done = ready();
    deeds.happen(done);
    done.reopen();
    String after = Seen.of(done);
    int[] behind = {0, 1, size - 1, size, size + 1, 70000};
    for (int k : behind) {
      EventVault vault = ready();
      vault.power(k);
      Due.powerFails(what + " behind " + k, Due.call(() -> deeds.happen(vault)));
      Due.is(what + " behind " + k + ": off", 0, () -> vault.told(0));
      Due.is(what + " behind " + k + ": check", 0, vault::check);
      vault.reopen();
      String due = k < size ? before : after;
      Due.same(what + " behind " + k + " changed", "nothing", Seen.difference(due, Seen.of(vault)));
    }
  }

  /** Busy, with PROJECTIONS 1 to 3 that emit none, emit four, and break. */
  private static EventVault ready() {
    EventVault vault = Vaults.busy();
    Vaults.project(vault, 1, 1, 0, 6, 0);
    Vaults.project(vault, 2, 1, 0, 18, 0, 1, 0, 18, 1, 1, 0, 18, 2, 1, 0, 18, 3);
    Vaults.project(vault, 3, 0, 0, 13, 0, 10, 0);
    return vault;
  }

  /** Only a scavenge has RECORDS of 70000 bytes and more, by more calls than an object is promised for. */
  private static void largestRecord() {
    EventVault vault = Vaults.spread(312);
    for (int i = 0; i < 8; i++) {
      Vaults.project(vault, i, new int[128]);
      vault.group(i, -1, 0, 0);
    }
    for (int position = 0; position < 1100; position++) {
      parkNext(vault);
    }
    vault.power(70000);
    Due.powerFails("behind all 70000 bytes", vault::scavenge);
    Due.is("they are one record", 1, () -> vault.told(7));
    Due.is("of 70000 bytes", 70000, () -> vault.told(4));
    vault.reopen();
    parkNext(vault);
    vault.power(70000);
    Due.powerFails("behind 70000 of 70004 bytes", vault::scavenge);
    Due.is("the disk is as before", 70024, () -> vault.told(4));
    vault.reopen();
    Due.is("parked as before", 1101, () -> vault.told(500));
    Due.is("70004 bytes", 70004, vault::scavenge);
  }

  private static void parkNext(EventVault vault) {
    if (Vaults.free(vault) < 32) {
      vault.scavenge();
    }
    vault.refuse(0, vault.take(0));
  }

  private static void refusedChangesNothing() {
    EventVault vault = Vaults.busy();
    int[] none = {-2, 70001, 100000, Integer.MIN_VALUE, Integer.MAX_VALUE};
    for (int k : none) {
      Due.badArgument("power " + k, vault, Due.call(() -> vault.power(k)));
    }
    Due.is("power does not fail", 3, () -> vault.tick(8));
    vault.power(40);
    for (int k : none) {
      Due.badArgument("power " + k + ", behind 40", vault, Due.call(() -> vault.power(k)));
    }
    Due.powerFails("behind 40", () -> vault.tick(8));
    for (int k : none) {
      Due.badArgument("power " + k + ", while off", vault, Due.call(() -> vault.power(k)));
    }
    int[] right = {-1, 0, 70000};
    for (int k : right) {
      Due.is("power " + k + ", while off", 0, Due.call(() -> vault.power(k)));
    }
  }

  /** What is refused or needs no RECORD leaves it to the next one. */
  private static void staysToldTillTheNextRecord() {
    EventVault vault = Vaults.busyAndFull(24);
    vault.power(23);
    Due.badState("settings without room", vault, () -> vault.settings(0, 1, 0, 0));
    Due.badState("an end without room", vault, () -> vault.end(0));
    Due.badState("a tick without room", vault, () -> vault.tick(1));
    Due.badState("a group without room", vault, () -> vault.group(0, 0, 0, 0));
    Due.badState("an acknowledge without room", vault, () -> vault.acknowledge(0, 3));
    Due.badState("a step without room", vault, () -> vault.step(0));
    Due.badArgument("no tick", vault, () -> vault.tick(0));
    Due.missing("no group", vault, () -> vault.take(3));
    vault.draft(70, 0, 0);
    Due.badState("an append without room", () -> vault.append(9, -1));
    vault.code(19, 0);
    Due.badState("a projection without room", vault, () -> vault.projection(0, -1, -1, false));
    Due.is("a refuse that does not park", 0, () -> vault.refuse(7, 2));
    Due.powerFails("one that does", () -> vault.refuse(0, 3));
    vault.reopen();
    Due.is("and does not last", 1, () -> vault.told(500));
  }
}
