/** Objects and short runs of calls that many tests begin with. */
final class Vaults {
  private Vaults() {
  }

  /** Appends events of TYPE 0 and DATA 10 times their IDS, whatever the version is. */
  static int append(EventVault vault, int stream, int... ids) {
    for (int id : ids) {
      vault.draft(id, 0, 10L * id);
    }
    return vault.append(stream, -2);
  }

  static EventVault with(int stream, int... ids) {
    EventVault vault = new EventVault();
    append(vault, stream, ids);
    return vault;
  }

  /**
   * Something of everything: STREAM 0 has one that is hidden of four, 5 is ended, 31 has two; GROUP 0 has two out, one
   * done, one parked; GROUP 7 has one out; PROJECTION 0 has worked and emitted, 6 was broken.
   */
  static EventVault busy() {
    EventVault vault = with(0, 1, 2, 3, 4);
    append(vault, 31, 5, 6);
    append(vault, 5, 7);
    vault.end(5);
    vault.settings(0, 0, 0, 1);
    vault.tick(3);
    vault.group(0, -1, 0, 0);
    for (int i = 0; i < 4; i++) {
      vault.take(0);
    }
    vault.acknowledge(0, 1);
    vault.refuse(0, 2);
    vault.group(7, 0, 2, 9);
    vault.take(7);
    project(vault, 0, 1, 0, 6, 3, 4, 0, 18, 2);
    vault.step(0);
    project(vault, 6, 14, 0);
    vault.step(6);
    return vault;
  }

  /** POSITIONS 0 to 2495, all hidden, of STREAM 0. It takes more calls than an object is promised for. */
  static EventVault many() {
    EventVault vault = new EventVault();
    for (int behind = 8; behind <= 2496; behind += 8) {
      append(vault, 0, 1, 2, 3, 4, 5, 6, 7, 8);
      vault.settings(0, 0, 0, behind);
      vault.scavenge();
    }
    return vault;
  }

  /** All 2500 POSITIONS, of which the last four, of STREAM 31, are visible. */
  static EventVault most() {
    EventVault vault = many();
    append(vault, 31, 1, 2, 3, 4);
    return vault;
  }

  /** So many rows of eight events, all visible, in one stream after another. */
  static EventVault spread(int rows) {
    EventVault vault = new EventVault();
    for (int i = 0; i < rows; i++) {
      int first = 8 * i;
      append(vault, i % 32, first, first + 1, first + 2, first + 3, first + 4, first + 5, first + 6, first + 7);
    }
    return vault;
  }

  /** With so many bytes left on its disk. It takes more calls than an object is promised for. */
  static EventVault busyAndFull(int left) {
    EventVault vault = busy();
    fillUp(vault, left);
    return vault;
  }

  static EventVault busyAndOff() {
    EventVault vault = busy();
    turnOff(vault);
    return vault;
  }

  static EventVault off() {
    EventVault vault = new EventVault();
    turnOff(vault);
    return vault;
  }

  /** Nothing of the tick by which power fails lasts. */
  static void turnOff(EventVault vault) {
    vault.power(0);
    try {
      vault.tick(1);
      throw new IllegalStateException("power did not fail");
    } catch (ArithmeticException due) {
      return;
    }
  }

  /** Pairs of op and a. */
  static void code(EventVault vault, int... program) {
    for (int i = 0; i < program.length; i += 2) {
      vault.code(program[i], program[i + 1]);
    }
  }

  static int project(EventVault vault, int p, int... program) {
    code(vault, program);
    return vault.projection(p, -1, -1, false);
  }

  /** A disk with so many bytes left. It takes more calls than an object is promised for. */
  static EventVault almostFull(int left) {
    EventVault vault = new EventVault();
    fillUp(vault, left);
    return vault;
  }

  /** So many bytes are left then, a multiple of 8: by records of 32, and one of a projection that fits the rest. */
  static void fillUp(EventVault vault, int left) {
    for (int free = free(vault); free > left; free = free(vault)) {
      int over = free - left;
      if (over >= 96 || over % 32 == 0) {
        vault.settings(39, 0, 0, 0);
      } else {
        projectFiller(vault, (over - 24) / 8);
      }
    }
  }

  private static void projectFiller(EventVault vault, int instructions) {
    for (int i = 0; i < instructions; i++) {
      vault.code(19, 0);
    }
    vault.projection(7, 0, 0, false);
  }

  static int free(EventVault vault) {
    return 100000 - vault.told(4);
  }
}
