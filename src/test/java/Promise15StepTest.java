public final class Promise15StepTest {
  private static final int DATA = 6;
  private static final int TYPE = 7;
  private static final int STREAM = 3;

  public static void main(String[] args) {
    instructions();
    jumps();
    breaks();
    brokenChangesNothing();
    emits();
    variables();
    cursor();
    wrongCalls();
    limits();
    powerFails();
    Due.end();
  }

  /** NUMBER 1 of STREAM 3, at POSITION 1, with DATA 6 and TYPE 7. */
  private static EventVault oneEvent() {
    EventVault vault = Vaults.with(STREAM, 99);
    vault.settings(STREAM, 1, 0, 0);
    vault.draft(5, TYPE, DATA);
    vault.append(STREAM, -2);
    return vault;
  }

  private static EventVault stepped(int... program) {
    EventVault vault = oneEvent();
    Vaults.project(vault, 0, program);
    Due.is("step", 1, () -> vault.step(0));
    return vault;
  }

  /** What a program pushes last, put into VARIABLE 0. */
  private static void pushes(String what, long want, int... program) {
    int[] whole = java.util.Arrays.copyOf(program, program.length + 2);
    whole[program.length] = 6;
    EventVault vault = stepped(whole);
    Due.is(what, want, () -> vault.variable(0, STREAM, 0));
  }

  private static void breaks(String what, int... program) {
    EventVault vault = oneEvent();
    Vaults.project(vault, 0, program);
    Due.is(what, -2, () -> vault.step(0));
    Due.is(what + ": broken", 1, () -> vault.told(700));
  }

  private static void instructions() {
    pushes("a number", -8, 0, -8);
    pushes("data", DATA, 1, 0);
    pushes("type", TYPE, 2, 0);
    pushes("stream", STREAM, 3, 0);
    pushes("number", 1, 4, 0);
    pushes("+", 9, 0, 7, 0, 2, 7, 0);
    pushes("-", 5, 0, 7, 0, 2, 8, 0);
    pushes("*", -14, 0, 7, 0, -2, 9, 0);
    pushes("/", -3, 0, 7, 0, -2, 10, 0);
    pushes("less", 1, 0, -7, 0, 2, 11, 0);
    pushes("not less", 0, 0, 2, 0, 2, 11, 0);
    pushes("more", 0, 0, 3, 0, 2, 11, 0);
    pushes("the same", 1, 0, 2, 0, 2, 12, 0);
    pushes("not the same", 0, 0, 3, 0, 2, 12, 0);
    pushes("doubles", 14, 0, 7, 13, 0, 7, 0);
    pushes("drops", 7, 0, 7, 0, 2, 14, 0);
    pushes("changes", -5, 0, 7, 0, 2, 15, 0, 8, 0);
    pushes("ends", 0, 0, 7, 19, 0);
    long least = least();
    Due.is("wraps", Long.MIN_VALUE, () -> least);
  }

  /** The least long by -1: it wraps, and nothing breaks. */
  private static long least() {
    EventVault vault = new EventVault();
    vault.draft(1, 0, Long.MIN_VALUE);
    vault.append(0, -1);
    Vaults.project(vault, 0, 1, 0, 0, -1, 10, 0, 6, 1);
    vault.step(0);
    return vault.variable(0, 0, 1);
  }

  private static void jumps() {
    pushes("over one", 1, 0, 1, 16, 3, 14, 0);
    pushes("if it is 0", 8, 0, 8, 0, 0, 17, 5, 14, 0, 0, 9);
    pushes("if it is not", 9, 0, 8, 0, 2, 17, 5, 14, 0, 0, 9);
    EventVault end = stepped(0, 0, 17, 3, 14, 0);
    Due.is("behind the last one", 0, () -> end.told(700));
    EventVault counted = stepped(5, 0, 0, 1, 7, 0, 13, 0, 6, 0, 0, 25, 12, 0, 17, 0);
    Due.is("25 rounds of 8 are 200", 25, () -> counted.variable(0, STREAM, 0));
  }

  private static void breaks() {
    breaks("for ever", 16, 0);
    breaks("26 rounds of 8 are more than 200", 5, 0, 0, 1, 7, 0, 13, 0, 6, 0, 0, 26, 12, 0, 17, 0);
    breaks("200 and an end", 5, 0, 0, 1, 7, 0, 13, 0, 6, 0, 0, 25, 12, 0, 17, 0, 19, 0);
    breaks("/ by 0", 0, 1, 0, 0, 10, 0);
    int[] alone = {6, 7, 8, 9, 10, 11, 12, 13, 14, 15, 17, 18};
    for (int op : alone) {
      breaks(op + " with nothing", op, 0);
    }
    int[] pairs = {7, 8, 9, 10, 11, 12, 15};
    for (int op : pairs) {
      breaks(op + " with one", 0, 1, op, 0);
    }
    tooFull();
    breaks("a fifth event", 0, 1, 18, 0, 0, 1, 18, 0, 0, 1, 18, 0, 0, 1, 18, 0, 0, 1, 18, 0);
  }

  private static void tooFull() {
    EventVault twice = Vaults.with(0, 1, 2);
    Vaults.project(twice, 0, 0, 1, 0, 1, 0, 1, 0, 1, 0, 1, 0, 1, 0, 1, 0, 1, 0, 1);
    Due.is("nine stay behind", 0, () -> twice.step(0));
    Due.is("but not for the next", 1, () -> twice.step(0));
    int[] pushers = {0, 1, 2, 3, 4, 5, 13};
    for (int op : pushers) {
      int[] program = new int[34];
      for (int i = 0; i < 32; i += 2) {
        program[i] = 0;
        program[i + 1] = 3;
      }
      program[32] = 14;
      EventVault vault = stepped(program);
      Due.is("16 are not too many", 0, () -> vault.told(700));
      program[32] = op;
      breaks("a 17th by " + op, program);
    }
  }

  private static void brokenChangesNothing() {
    EventVault vault = Vaults.with(0, 1, 2);
    Vaults.project(vault, 2, 1, 0, 6, 1, 0, 4, 18, 0, 0, 7, 1, 0, 0, 20, 12, 0, 17, 12, 14, 0, 14, 0, 14, 0);
    Due.is("worked", 0, () -> vault.step(2));
    int before = vault.told(4);
    Due.is("broken", -2, () -> vault.step(2));
    Due.is("bytes", before + 24, () -> vault.told(4));
    Due.is("variables", 10, () -> vault.variable(2, 0, 1));
    Due.is("events", 3, () -> vault.told(2));
    Due.is("cursor at the event", 1, () -> vault.told(602));
    Due.badState("broken before", () -> vault.step(2));
    vault.reopen();
    Due.badState("it lasts", () -> vault.step(2));
    EventVault late = Vaults.with(0, 1, 2, 3);
    late.settings(0, 0, 0, 2);
    Vaults.project(late, 0, 14, 0);
    late.step(0);
    Due.is("cursor at the visible event", 2, () -> late.told(600));
  }

  private static void emits() {
    EventVault vault = Vaults.with(0, 1, 2);
    vault.tick(6);
    Vaults.project(vault, 5, 1, 0, 18, 15, 4, 0, 18, 0, 2, 0, 18, 1, 0, -3, 18, 2);
    int before = vault.told(4);
    Due.is("the first", 0, () -> vault.step(5));
    Due.is("bytes", before + 56 + 96, () -> vault.told(4));
    Due.is("the second", 1, () -> vault.step(5));
    Due.is("positions", 10, () -> vault.told(2));
    long[][] want = {{37, 4, 4, 15, 20, 6}, {37, 5, 5, 0, 1, 6}, {37, 6, 6, 1, 0, 6}, {37, 7, 7, 2, -3, 6}};
    for (int i = 0; i < 4; i++) {
      for (int what = 0; what < 6; what++) {
        int position = 6 + i;
        int asked = what;
        Due.is("emitted " + i + ", " + what, want[i][what], () -> vault.event(position, asked));
      }
    }
    Due.is("what is emitted is not worked", -1, () -> vault.step(5));
    Vaults.project(vault, 6, 19, 0);
    vault.step(6);
    vault.step(6);
    Due.is("by another one neither", -1, () -> vault.step(6));
    Due.is("none emitted", -1, () -> vault.told(138));
  }

  private static void variables() {
    EventVault vault = Vaults.with(0, 1);
    Vaults.append(vault, 1, 2);
    Vaults.append(vault, 0, 3);
    int[] sum = {5, 3, 1, 0, 7, 0, 6, 3};
    Vaults.project(vault, 0, sum);
    Vaults.code(vault, sum);
    vault.projection(1, -1, -1, true);
    for (int i = 0; i < 3; i++) {
      vault.step(0);
      vault.step(1);
    }
    Due.is("stream 0", 40, () -> vault.variable(0, 0, 3));
    Due.is("stream 1", 20, () -> vault.variable(0, 1, 3));
    Due.is("all together", 60, () -> vault.variable(1, 0, 3));
    Due.is("of others 0", 0, () -> vault.variable(1, 1, 3));
    vault.reopen();
    Due.is("they last", 40, () -> vault.variable(0, 0, 3));
    EventVault sees = Vaults.with(0, 1);
    Vaults.project(sees, 0, 0, 5, 6, 2, 5, 2, 5, 2, 7, 0, 6, 2);
    sees.step(0);
    Due.is("it sees what it has put", 10, () -> sees.variable(0, 0, 2));
  }

  private static void cursor() {
    EventVault vault = Vaults.with(0, 1, 2, 3);
    Vaults.append(vault, 1, 4);
    vault.code(19, 0);
    vault.projection(0, 1, -1, false);
    vault.settings(0, 0, 0, 1);
    Due.is("a hidden one is left out", 1, () -> vault.step(0));
    Due.is("behind it", 2, () -> vault.told(600));
    int before = vault.told(4);
    Due.is("the last", 2, () -> vault.step(0));
    Due.is("bytes", before + 56, () -> vault.told(4));
    vault.power(0);
    Due.is("none", -1, () -> vault.step(0));
    Due.is("the cursor stays", 3, () -> vault.told(600));
    Due.is("no record", before + 56, () -> vault.told(4));
    vault.reopen();
    Vaults.append(vault, 0, 5);
    Due.is("one that came", 4, () -> vault.step(0));
  }

  private static void wrongCalls() {
    EventVault vault = Vaults.with(0, 1);
    Due.missing("not made", () -> vault.step(0));
    Due.missing("projection -1", () -> vault.step(-1));
    Due.missing("projection 8", () -> vault.step(8));
    Vaults.project(vault, 0, 19, 0);
    Vaults.turnOff(vault);
    Due.badState("off", () -> vault.step(0));
    Due.badState("off, and no such projection", () -> vault.step(8));
  }

  /** More calls than an object is promised for, as the limits lie behind them. */
  private static void limits() {
    EventVault full = Vaults.with(0, 1, 2);
    Vaults.project(full, 0, 1, 0, 18, 0);
    Vaults.project(full, 1, 14, 0);
    Vaults.fillUp(full, 72);
    Due.badState("no room for 80 bytes", () -> full.step(0));
    Due.is("nothing was done", 0, () -> full.told(600));
    full.settings(39, 0, 0, 0);
    Due.is("room for 24 bytes", -2, () -> full.step(1));
    EventVault less = Vaults.with(0, 1);
    Vaults.project(less, 0, 14, 0);
    Vaults.fillUp(less, 16);
    Due.badState("no room for 24 bytes", () -> less.step(0));
    Due.is("not broken", 0, () -> less.told(700));
    EventVault many = new EventVault();
    for (int i = 0; i < 312; i++) {
      Vaults.append(many, 0, 1, 2, 3, 4, 5, 6, 7, 8);
      many.settings(0, 0, 0, i * 8 + 8);
      many.scavenge();
    }
    Vaults.append(many, 0, 1, 2, 3);
    Vaults.project(many, 0, 0, 1, 18, 0, 0, 1, 18, 0);
    Due.badState("2501 events", () -> many.step(0));
    Due.is("nothing was done at 2499", 0, () -> many.told(600));
    Vaults.project(many, 0, 0, 1, 18, 0);
    Due.is("2500 events", 2496, () -> many.step(0));
    Due.is("positions", 2500, () -> many.told(2));
  }

  private static void powerFails() {
    EventVault vault = Vaults.with(0, 1);
    Vaults.project(vault, 0, 1, 0, 13, 0, 6, 0, 18, 0);
    vault.power(79);
    Due.powerFails("a byte too few", () -> vault.step(0));
    Due.is("nothing emitted", 1, vault::reopen);
    Due.is("cursor", 0, () -> vault.told(600));
    Due.is("variables", 0, () -> vault.variable(0, 0, 0));
    vault.power(80);
    Due.powerFails("all bytes", () -> vault.step(0));
    Due.is("emitted", 2, vault::reopen);
    Due.is("just once", -1, () -> vault.step(0));
    Due.is("its variable", 10, () -> vault.variable(0, 0, 0));
    Vaults.project(vault, 0, 14, 0);
    vault.power(23);
    Due.powerFails("broken, a byte too few", () -> vault.step(0));
    vault.reopen();
    Due.is("not broken", 0, () -> vault.told(700));
    vault.power(24);
    Due.powerFails("broken, all bytes", () -> vault.step(0));
    vault.reopen();
    Due.is("broken", 1, () -> vault.told(700));
  }
}
