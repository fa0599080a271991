public final class Promise17ScavengeTest {
  public static void main(String[] args) {
    empty();
    streams();
    groups();
    projections();
    changesNothingElse();
    wrongCalls();
    wouldBeFull();
    powerFails();
    eachPartAlone();
    everyByte();
    sameAgain();
    refusedChangesNothing();
    whatStays();
    Due.end();
  }

  private static void empty() {
    EventVault vault = new EventVault();
    Due.is("nothing but its head", 64, vault::scavenge);
    Due.is("one record", 1, () -> vault.told(7));
    Due.is("bytes", 64, () -> vault.told(4));
    vault.tick(5);
    Due.is("behind it", 96, () -> vault.told(4));
    Due.is("two records", 2, () -> vault.told(7));
    Due.is("once more", 64, vault::scavenge);
    Due.is("time stays", 5, () -> vault.told(1));
  }

  private static void streams() {
    EventVault vault = Vaults.with(0, 1, 2, 3);
    Due.is("three events of a stream", 64 + 3 * 24 + 24, vault::scavenge);
    vault.settings(0, 0, 0, 2);
    Due.is("one of them", 64 + 24 + 24, vault::scavenge);
    vault.settings(1, 1, 0, 0);
    vault.settings(2, 0, 1, 0);
    vault.settings(39, 0, 0, 1);
    vault.settings(3, 0, 0, 0);
    Due.is("three with a setting, and one with none", 64 + 24 + 4 * 24, vault::scavenge);
    vault.settings(1, 0, 0, 0);
    vault.end(4);
    Due.is("one less, and one that is ended", 64 + 24 + 4 * 24, vault::scavenge);
    vault.end(0);
    Due.is("no events, but a version", 64 + 4 * 24, vault::scavenge);
  }

  private static void groups() {
    EventVault vault = Vaults.with(0, 1, 2, 3, 4);
    int events = 64 + 4 * 24 + 24;
    vault.group(0, 0, 0, 0);
    Due.is("a group", events + 32, vault::scavenge);
    vault.group(7, -1, 0, 0);
    for (int i = 0; i < 4; i++) {
      vault.take(0);
    }
    vault.acknowledge(0, 0);
    vault.refuse(0, 1);
    vault.acknowledge(0, 2);
    Due.is("two done and one parked", events + 64 + 12, vault::scavenge);
    vault.settings(0, 0, 0, 2);
    Due.is("one of them is visible", events - 48 + 64 + 4, vault::scavenge);
    vault.reopen();
    Due.is("it is done still", 1, () -> vault.told(400));
    Due.is("the other is open", 3, () -> vault.take(0));
    vault.group(0, 0, 3, 0);
    Due.is("made anew", events - 48 + 64, vault::scavenge);
  }

  private static void projections() {
    EventVault vault = Vaults.with(0, 1);
    Vaults.append(vault, 1, 2);
    int events = 64 + 2 * 24 + 2 * 24;
    Vaults.project(vault, 0, 1, 0, 6, 2);
    Vaults.project(vault, 5, 14, 0);
    Due.is("two projections", events + 2 * 64 + 3 * 8, vault::scavenge);
    vault.step(0);
    Due.is("with variables of a stream", events + 2 * 64 + 3 * 8 + 40, vault::scavenge);
    vault.step(0);
    vault.step(5);
    Due.is("of two streams, and broken", events + 2 * 64 + 3 * 8 + 80, vault::scavenge);
    vault.reopen();
    Due.is("cursor", 2, () -> vault.told(600));
    Due.is("broken", 1, () -> vault.told(705));
    Due.is("a variable", 20, () -> vault.variable(0, 1, 2));
    Vaults.project(vault, 0, 0, -1, 0, 1, 6, 0, 6, 1);
    vault.step(0);
    Due.is("1 and -1 of one stream", events + 2 * 64 + 5 * 8 + 40, vault::scavenge);
    Vaults.project(vault, 0, 0, 1, 6, 0);
    vault.step(0);
    Due.is("the first variable alone", events + 2 * 64 + 3 * 8 + 40, vault::scavenge);
  }

  private static void changesNothingElse() {
    EventVault vault = Vaults.with(0, 1, 2, 3);
    vault.group(0, 0, 0, 1);
    vault.take(0);
    vault.take(0);
    vault.settings(0, 0, 0, 1);
    vault.draft(9, 0, 0);
    vault.code(19, 0);
    vault.scavenge();
    Due.is("positions", 3, () -> vault.told(2));
    Due.is("version", 2, () -> vault.told(100));
    Due.is("drafted", 1, () -> vault.told(5));
    Due.is("put together", 1, () -> vault.told(6));
    Due.is("out", 2, () -> vault.told(300));
    Due.is("a hidden one that is out", 1, () -> vault.acknowledge(0, 0));
    vault.refuse(0, 1);
    vault.take(0);
    Due.is("tries", 1, () -> vault.refuse(0, 1));
    vault.settings(0, 0, 0, 0);
    Due.is("hidden for ever", 2, () -> vault.told(3));
    Due.is("a position as it was", 2, () -> vault.read(0, 2, 0, false));
    Due.is("positions go on", 3, () -> vault.append(0, 2));
    vault.reopen();
    Due.is("hidden for ever, too, when it was off", 3, () -> vault.told(3));
  }

  private static void wrongCalls() {
    EventVault off = Vaults.off();
    Due.badState("off", off::scavenge);
  }

  /** Eight projections take 40 bytes more each as they are kept. */
  private static void wouldBeFull() {
    EventVault vault = crowded(1153);
    int bytes = vault.told(4);
    Due.badState("192 bytes too many", vault::scavenge);
    Due.is("bytes as before", bytes, () -> vault.told(4));
    Due.is("records as before", 9, () -> vault.told(7));
    vault.group(7, -1, 0, 0);
    Due.is("fewer that are parked", 100192 - 1153 * 4, vault::scavenge);
    EventVault fits = crowded(1147);
    Due.is("just so many", 100000, fits::scavenge);
    Due.is("full", 100000, () -> fits.told(4));
  }

  /** Scavenged, and then eight projections made. More calls than an object is promised for. */
  private static EventVault crowded(int parked) {
    EventVault vault = Vaults.spread(300);
    for (int g = 0; g < 8; g++) {
      park(vault, g, parked);
    }
    int kept = 64 + 2400 * 24 + 32 * 24 + 8 * (32 + parked * 4);
    Due.is("many events, and many that are parked", kept, vault::scavenge);
    for (int p = 0; p < 8; p++) {
      Vaults.project(vault, p, new int[128]);
    }
    return vault;
  }

  private static void park(EventVault vault, int g, int count) {
    vault.group(g, -1, 0, 0);
    for (int i = 0; i < count; i++) {
      vault.take(g);
      vault.refuse(g, i);
      if (Vaults.free(vault) < 64) {
        vault.scavenge();
      }
    }
  }

  private static void powerFails() {
    EventVault vault = Vaults.with(0, 1, 2, 3);
    vault.settings(0, 0, 0, 2);
    vault.settings(0, 0, 0, 0);
    int before = vault.told(4);
    vault.power(64 + 24 + 23);
    Due.powerFails("a byte too few", vault::scavenge);
    Due.is("bytes as before", before, () -> vault.told(4));
    Due.is("records as before", 3, () -> vault.told(7));
    Due.is("positions", 3, vault::reopen);
    Due.is("hidden for ever", 1, () -> vault.told(3));
    vault.power(64 + 24 + 24);
    Due.powerFails("all bytes", vault::scavenge);
    Due.is("bytes anew", 112, () -> vault.told(4));
    Due.is("one record", 1, () -> vault.told(7));
    Due.is("positions stay", 3, vault::reopen);
    Due.is("visible", 1, () -> vault.told(3));
    Due.is("its position", 2, () -> vault.read(0, 0, 0, false));
  }

  /** What each thing alone takes behind the 64 of none. */
  private static void eachPartAlone() {
    kept("nothing set", 0, vault -> vault.settings(0, 0, 0, 0));
    kept("most 1", 24, vault -> vault.settings(0, 1, 0, 0));
    kept("age 1", 24, vault -> vault.settings(31, 0, 1, 0));
    kept("from 1", 24, vault -> vault.settings(32, 0, 0, 1));
    kept("three large ones", 24, vault -> vault.settings(39, 1 << 30, 1 << 30, 1 << 30));
    kept("an end", 24, vault -> vault.end(31));
    kept("one event", 48, vault -> Vaults.append(vault, 0, 1));
    kept("one hidden event", 24, vault -> {
      Vaults.append(vault, 0, 1);
      vault.settings(0, 0, 0, 1);
      vault.settings(0, 0, 0, 0);
    });
    kept("an ended event", 24, vault -> {
      Vaults.append(vault, 0, 1);
      vault.end(0);
    });
    kept("a tick", 0, vault -> vault.tick(1000));
    kept("a draft and a program", 0, vault -> {
      vault.draft(1, 0, 0);
      vault.code(19, 0);
    });
    kept("the last group", 32, vault -> vault.group(7, 39, 2500, 9));
    kept("all groups", 8 * 32, vault -> {
      for (int g = 0; g < 8; g++) {
        vault.group(g, -1, 0, 0);
      }
    });
    kept("one that is out", 48 + 32, vault -> {
      Vaults.append(vault, 0, 1);
      vault.group(0, -1, 0, 0);
      vault.take(0);
    });
    kept("one that was made anew", 48 + 32, vault -> {
      Vaults.append(vault, 0, 1);
      vault.group(0, -1, 0, 0);
      vault.take(0);
      vault.acknowledge(0, 0);
      vault.group(0, -1, 0, 0);
    });
    kept("the shortest program", 64 + 8, vault -> Vaults.project(vault, 0, 19, 0));
    kept("the longest program", 64 + 64 * 8, vault -> Vaults.project(vault, 7, new int[128]));
    kept("what is emitted is an event of its stream", 48 + 48 + 64 + 16, vault -> {
      Vaults.append(vault, 0, 1);
      Vaults.project(vault, 7, 0, 0, 18, 0);
      vault.step(7);
    });
    for (int place = 0; place < 4; place++) {
      int v = place;
      keptVariable("variable " + v, 40, vault -> Vaults.project(vault, 0, 1, 0, 6, v));
    }
    keptVariable("a variable that is 0", 0, vault -> Vaults.project(vault, 0, 0, 0, 6, 0));
  }

  private interface Deeds {
    void happen(EventVault vault);
  }

  private static void kept(String what, int bytes, Deeds deeds) {
    EventVault vault = new EventVault();
    deeds.happen(vault);
    Due.is(what, 64 + bytes, vault::scavenge);
    Due.is(what + ": bytes", 64 + bytes, () -> vault.told(4));
    Due.is(what + ": records", 1, () -> vault.told(7));
  }

  /** Of high bits alone, by a program of two instructions. */
  private static void keptVariable(String what, int bytes, Deeds projects) {
    kept(what, 48 + 64 + 16 + bytes, vault -> {
      vault.draft(1, 0, 1L << 40);
      vault.append(31, -1);
      projects.happen(vault);
      vault.step(0);
    });
  }

  /** Cut at each byte that a busy object's record has, and not behind the last one. */
  private static void everyByte() {
    int size = Vaults.busy().scavenge();
    EventVault whole = Vaults.busy();
    whole.reopen();
    String before = Seen.of(whole);
    whole.scavenge();
    String after = Seen.of(whole);
    EventVault vault = Vaults.busy();
    for (int k = 0; k < size; k++) {
      vault.power(k);
      Due.powerFails("scavenge behind " + k, vault::scavenge);
      vault.reopen();
      Due.same("changed behind " + k, "nothing", Seen.difference(before, Seen.of(vault)));
    }
    int[] behind = {size, size + 1, 70000};
    for (int k : behind) {
      EventVault lasts = Vaults.busy();
      lasts.power(k);
      Due.powerFails("scavenge behind all, " + k, lasts::scavenge);
      Due.is("bytes behind all, " + k, size, () -> lasts.told(4));
      lasts.reopen();
      Due.same("changed behind all, " + k, "nothing", Seen.difference(after, Seen.of(lasts)));
    }
  }

  private static void sameAgain() {
    EventVault vault = Vaults.busy();
    vault.draft(1, 0, 0);
    vault.code(19, 0);
    int size = vault.scavenge();
    Due.unchanged("scavenging once more", vault, () -> Due.is("the same again", size, vault::scavenge));
    Due.is("what is out stays so", 1, () -> vault.acknowledge(0, 3));
    Due.is("draft stays", 1, () -> vault.told(5));
    Due.is("program stays", 1, () -> vault.told(6));
  }

  private static void refusedChangesNothing() {
    EventVault off = Vaults.busyAndOff();
    Due.badState("off", off, off::scavenge);
    EventVault full = Vaults.busyAndFull(0);
    int bytes = full.scavenge();
    Due.is("a full disk is none that would be full", bytes, () -> full.told(4));
    EventVault crowded = crowded(1148);
    Due.badState("32 bytes too many", crowded, crowded::scavenge);
    crowded.power(0);
    Due.badState("too many, so power does not fail", crowded, crowded::scavenge);
    crowded.power(-1);
    Due.is("what is on the disk goes on, and its stack is too full", -2, () -> crowded.step(7));
  }

  /** What a record of all says is what there was: each setting, want and mask works on, and nothing in memory ends. */
  private static void whatStays() {
    for (int opened = 0; opened < 2; opened++) {
      EventVault vault = Vaults.with(0, 1, 2, 3);
      vault.settings(0, 2, 0, 0);
      vault.settings(1, 0, 2, 0);
      vault.settings(2, 0, 0, 1);
      vault.end(3);
      vault.group(0, 2, 4, 1);
      vault.code(1, 0);
      vault.code(6, 1);
      vault.projection(0, 1 << 2, 1, true);
      Vaults.project(vault, 1, 14, 0);
      vault.step(1);
      vault.scavenge();
      if (opened == 1) {
        vault.reopen();
      }
      String when = opened == 1 ? " when reopened" : "";
      Due.is("a version" + when, 3, () -> Vaults.append(vault, 0, 4));
      Due.is("most" + when, 2, () -> vault.read(-1, 0, 0, false));
      Due.is("from" + when, 4, () -> Vaults.append(vault, 2, 5, 6));
      Due.is("from hides the first" + when, 5, () -> vault.read(2, 0, 0, false));
      Due.is("age" + when, 6, () -> Vaults.append(vault, 1, 7));
      vault.tick(2);
      Due.is("age hides" + when, -1, () -> vault.read(1, 0, 0, false));
      Due.badState("ended" + when, () -> Vaults.append(vault, 3, 8));
      Due.is("a stream and a position that are wanted" + when, 5, () -> vault.take(0));
      Due.is("retries" + when, 0, () -> vault.refuse(0, 5));
      Due.is("stream and type" + when, 5, () -> vault.step(0));
      Due.is("for all together" + when, 60, () -> vault.variable(0, 0, 1));
      Due.badState("broken" + when, () -> vault.step(1));
      Due.is("its cursor" + when, 1, () -> vault.told(601));
    }
    EventVault tries = Vaults.with(0, 1);
    tries.group(0, 0, 0, 1);
    tries.take(0);
    tries.refuse(0, 0);
    tries.scavenge();
    tries.take(0);
    Due.is("tries stay", 1, () -> tries.refuse(0, 0));
  }
}
