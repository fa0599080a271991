public final class Promise15StepTest {
  private static final int DATA = 6;
  private static final int TYPE = 7;
  private static final int STREAM = 3;

  public static void main(String[] args) {
    instructions();
    jumps();
    breaks();
    brokenChangesNothing();
    emits();
    variables();
    cursor();
    wrongCalls();
    limits();
    powerFails();
    wrapsAround();
    wholeLongs();
    fullAndEmptyStacks();
    twoHundred();
    noneToFour();
    cursorAtTheEdges();
    atTheLastPosition();
    refusedChangesNothing();
    Due.end();
  }

  /** NUMBER 1 of STREAM 3, at POSITION 1, with DATA 6 and TYPE 7. */
  private static EventVault oneEvent() {
    EventVault vault = Vaults.with(STREAM, 99);
    vault.settings(STREAM, 1, 0, 0);
    vault.draft(5, TYPE, DATA);
    vault.append(STREAM, -2);
    return vault;
  }

  private static EventVault stepped(int... program) {
    EventVault vault = oneEvent();
    Vaults.project(vault, 0, program);
    Due.is("step", 1, () -> vault.step(0));
    return vault;
  }

  /** What a program pushes last, put into VARIABLE 0. */
  private static void pushes(String what, long want, int... program) {
    int[] whole = java.util.Arrays.copyOf(program, program.length + 2);
    whole[program.length] = 6;
    EventVault vault = stepped(whole);
    Due.is(what, want, () -> vault.variable(0, STREAM, 0));
  }

  private static void breaks(String what, int... program) {
    EventVault vault = oneEvent();
    Vaults.project(vault, 0, program);
    Due.is(what, -2, () -> vault.step(0));
    Due.is(what + ": broken", 1, () -> vault.told(700));
  }

  private static void instructions() {
    pushes("a number", -8, 0, -8);
    pushes("data", DATA, 1, 0);
    pushes("type", TYPE, 2, 0);
    pushes("stream", STREAM, 3, 0);
    pushes("number", 1, 4, 0);
    pushes("+", 9, 0, 7, 0, 2, 7, 0);
    pushes("-", 5, 0, 7, 0, 2, 8, 0);
    pushes("*", -14, 0, 7, 0, -2, 9, 0);
    pushes("/", -3, 0, 7, 0, -2, 10, 0);
    pushes("less", 1, 0, -7, 0, 2, 11, 0);
    pushes("not less", 0, 0, 2, 0, 2, 11, 0);
    pushes("more", 0, 0, 3, 0, 2, 11, 0);
    pushes("the same", 1, 0, 2, 0, 2, 12, 0);
    pushes("not the same", 0, 0, 3, 0, 2, 12, 0);
    pushes("doubles", 14, 0, 7, 13, 0, 7, 0);
    pushes("drops", 7, 0, 7, 0, 2, 14, 0);
    pushes("changes", -5, 0, 7, 0, 2, 15, 0, 8, 0);
    pushes("ends", 0, 0, 7, 19, 0);
    long least = least();
    Due.is("wraps", Long.MIN_VALUE, () -> least);
  }

  /** The least long by -1: it wraps, and nothing breaks. */
  private static long least() {
    EventVault vault = new EventVault();
    vault.draft(1, 0, Long.MIN_VALUE);
    vault.append(0, -1);
    Vaults.project(vault, 0, 1, 0, 0, -1, 10, 0, 6, 1);
    vault.step(0);
    return vault.variable(0, 0, 1);
  }

  private static void jumps() {
    pushes("over one", 1, 0, 1, 16, 3, 14, 0);
    pushes("if it is 0", 8, 0, 8, 0, 0, 17, 5, 14, 0, 0, 9);
    pushes("if it is not", 9, 0, 8, 0, 2, 17, 5, 14, 0, 0, 9);
    EventVault end = stepped(0, 0, 17, 3, 14, 0);
    Due.is("behind the last one", 0, () -> end.told(700));
    EventVault counted = stepped(5, 0, 0, 1, 7, 0, 13, 0, 6, 0, 0, 25, 12, 0, 17, 0);
    Due.is("25 rounds of 8 are 200", 25, () -> counted.variable(0, STREAM, 0));
  }

  private static void breaks() {
    breaks("for ever", 16, 0);
    breaks("26 rounds of 8 are more than 200", 5, 0, 0, 1, 7, 0, 13, 0, 6, 0, 0, 26, 12, 0, 17, 0);
    breaks("200 and an end", 5, 0, 0, 1, 7, 0, 13, 0, 6, 0, 0, 25, 12, 0, 17, 0, 19, 0);
    breaks("/ by 0", 0, 1, 0, 0, 10, 0);
    int[] alone = {6, 7, 8, 9, 10, 11, 12, 13, 14, 15, 17, 18};
    for (int op : alone) {
      breaks(op + " with nothing", op, 0);
    }
    int[] pairs = {7, 8, 9, 10, 11, 12, 15};
    for (int op : pairs) {
      breaks(op + " with one", 0, 1, op, 0);
    }
    tooFull();
    breaks("a fifth event", 0, 1, 18, 0, 0, 1, 18, 0, 0, 1, 18, 0, 0, 1, 18, 0, 0, 1, 18, 0);
  }

  private static void tooFull() {
    EventVault twice = Vaults.with(0, 1, 2);
    Vaults.project(twice, 0, 0, 1, 0, 1, 0, 1, 0, 1, 0, 1, 0, 1, 0, 1, 0, 1, 0, 1);
    Due.is("nine stay behind", 0, () -> twice.step(0));
    Due.is("but not for the next", 1, () -> twice.step(0));
    int[] pushers = {0, 1, 2, 3, 4, 5, 13};
    for (int op : pushers) {
      int[] program = new int[34];
      for (int i = 0; i < 32; i += 2) {
        program[i] = 0;
        program[i + 1] = 3;
      }
      program[32] = 14;
      EventVault vault = stepped(program);
      Due.is("16 are not too many", 0, () -> vault.told(700));
      program[32] = op;
      breaks("a 17th by " + op, program);
    }
  }

  private static void brokenChangesNothing() {
    EventVault vault = Vaults.with(0, 1, 2);
    Vaults.project(vault, 2, 1, 0, 6, 1, 0, 4, 18, 0, 0, 7, 1, 0, 0, 20, 12, 0, 17, 12, 14, 0, 14, 0, 14, 0);
    Due.is("worked", 0, () -> vault.step(2));
    int before = vault.told(4);
    Due.is("broken", -2, () -> vault.step(2));
    Due.is("bytes", before + 24, () -> vault.told(4));
    Due.is("variables", 10, () -> vault.variable(2, 0, 1));
    Due.is("events", 3, () -> vault.told(2));
    Due.is("cursor at the event", 1, () -> vault.told(602));
    Due.badState("broken before", () -> vault.step(2));
    vault.reopen();
    Due.badState("it lasts", () -> vault.step(2));
    EventVault late = Vaults.with(0, 1, 2, 3);
    late.settings(0, 0, 0, 2);
    Vaults.project(late, 0, 14, 0);
    late.step(0);
    Due.is("cursor at the visible event", 2, () -> late.told(600));
  }

  private static void emits() {
    EventVault vault = Vaults.with(0, 1, 2);
    vault.tick(6);
    Vaults.project(vault, 5, 1, 0, 18, 15, 4, 0, 18, 0, 2, 0, 18, 1, 0, -3, 18, 2);
    int before = vault.told(4);
    Due.is("the first", 0, () -> vault.step(5));
    Due.is("bytes", before + 56 + 96, () -> vault.told(4));
    Due.is("the second", 1, () -> vault.step(5));
    Due.is("positions", 10, () -> vault.told(2));
    long[][] want = {{37, 4, 4, 15, 20, 6}, {37, 5, 5, 0, 1, 6}, {37, 6, 6, 1, 0, 6}, {37, 7, 7, 2, -3, 6}};
    for (int i = 0; i < 4; i++) {
      for (int what = 0; what < 6; what++) {
        int position = 6 + i;
        int asked = what;
        Due.is("emitted " + i + ", " + what, want[i][what], () -> vault.event(position, asked));
      }
    }
    Due.is("what is emitted is not worked", -1, () -> vault.step(5));
    Vaults.project(vault, 6, 19, 0);
    vault.step(6);
    vault.step(6);
    Due.is("by another one neither", -1, () -> vault.step(6));
    Due.is("none emitted", -1, () -> vault.told(138));
  }

  private static void variables() {
    EventVault vault = Vaults.with(0, 1);
    Vaults.append(vault, 1, 2);
    Vaults.append(vault, 0, 3);
    int[] sum = {5, 3, 1, 0, 7, 0, 6, 3};
    Vaults.project(vault, 0, sum);
    Vaults.code(vault, sum);
    vault.projection(1, -1, -1, true);
    for (int i = 0; i < 3; i++) {
      vault.step(0);
      vault.step(1);
    }
    Due.is("stream 0", 40, () -> vault.variable(0, 0, 3));
    Due.is("stream 1", 20, () -> vault.variable(0, 1, 3));
    Due.is("all together", 60, () -> vault.variable(1, 0, 3));
    Due.is("of others 0", 0, () -> vault.variable(1, 1, 3));
    vault.reopen();
    Due.is("they last", 40, () -> vault.variable(0, 0, 3));
    EventVault sees = Vaults.with(0, 1);
    Vaults.project(sees, 0, 0, 5, 6, 2, 5, 2, 5, 2, 7, 0, 6, 2);
    sees.step(0);
    Due.is("it sees what it has put", 10, () -> sees.variable(0, 0, 2));
  }

  private static void cursor() {
    EventVault vault = Vaults.with(0, 1, 2, 3);
    Vaults.append(vault, 1, 4);
    vault.code(19, 0);
    vault.projection(0, 1, -1, false);
    vault.settings(0, 0, 0, 1);
    Due.is("a hidden one is left out", 1, () -> vault.step(0));
    Due.is("behind it", 2, () -> vault.told(600));
    int before = vault.told(4);
    Due.is("the last", 2, () -> vault.step(0));
    Due.is("bytes", before + 56, () -> vault.told(4));
    vault.power(0);
    Due.is("none", -1, () -> vault.step(0));
    Due.is("the cursor stays", 3, () -> vault.told(600));
    Due.is("no record", before + 56, () -> vault.told(4));
    vault.reopen();
    Vaults.append(vault, 0, 5);
    Due.is("one that came", 4, () -> vault.step(0));
  }

  private static void wrongCalls() {
    EventVault vault = Vaults.with(0, 1);
    Due.missing("not made", () -> vault.step(0));
    Due.missing("projection -1", () -> vault.step(-1));
    Due.missing("projection 8", () -> vault.step(8));
    Vaults.project(vault, 0, 19, 0);
    Vaults.turnOff(vault);
    Due.badState("off", () -> vault.step(0));
    Due.badState("off, and no such projection", () -> vault.step(8));
  }

  /** More calls than an object is promised for, as the limits lie behind them. */
  private static void limits() {
    EventVault full = Vaults.with(0, 1, 2);
    Vaults.project(full, 0, 1, 0, 18, 0);
    Vaults.project(full, 1, 14, 0);
    Vaults.fillUp(full, 72);
    Due.badState("no room for 80 bytes", () -> full.step(0));
    Due.is("nothing was done", 0, () -> full.told(600));
    full.settings(39, 0, 0, 0);
    Due.is("room for 24 bytes", -2, () -> full.step(1));
    EventVault less = Vaults.with(0, 1);
    Vaults.project(less, 0, 14, 0);
    Vaults.fillUp(less, 16);
    Due.badState("no room for 24 bytes", () -> less.step(0));
    Due.is("not broken", 0, () -> less.told(700));
    EventVault many = Vaults.many();
    Vaults.append(many, 0, 1, 2, 3);
    Vaults.project(many, 0, 0, 1, 18, 0, 0, 1, 18, 0);
    Due.badState("2501 events", () -> many.step(0));
    Due.is("nothing was done at 2499", 0, () -> many.told(600));
    Vaults.project(many, 0, 0, 1, 18, 0);
    Due.is("2500 events", 2496, () -> many.step(0));
    Due.is("positions", 2500, () -> many.told(2));
  }

  private static void powerFails() {
    EventVault vault = Vaults.with(0, 1);
    Vaults.project(vault, 0, 1, 0, 13, 0, 6, 0, 18, 0);
    vault.power(79);
    Due.powerFails("a byte too few", () -> vault.step(0));
    Due.is("nothing emitted", 1, vault::reopen);
    Due.is("cursor", 0, () -> vault.told(600));
    Due.is("variables", 0, () -> vault.variable(0, 0, 0));
    vault.power(80);
    Due.powerFails("all bytes", () -> vault.step(0));
    Due.is("emitted", 2, vault::reopen);
    Due.is("just once", -1, () -> vault.step(0));
    Due.is("its variable", 10, () -> vault.variable(0, 0, 0));
    Vaults.project(vault, 0, 14, 0);
    vault.power(23);
    Due.powerFails("broken, a byte too few", () -> vault.step(0));
    vault.reopen();
    Due.is("not broken", 0, () -> vault.told(700));
    vault.power(24);
    Due.powerFails("broken, all bytes", () -> vault.step(0));
    vault.reopen();
    Due.is("broken", 1, () -> vault.told(700));
  }

  /** What a program puts into VARIABLE 0, for an event with this DATA. */
  private static void worksData(String what, long want, long data, int... program) {
    EventVault vault = new EventVault();
    vault.draft(1, 0, data);
    vault.append(0, -1);
    Vaults.code(vault, program);
    Vaults.project(vault, 0, 6, 0);
    Due.is(what + ": step", 0, () -> vault.step(0));
    Due.is(what, want, () -> vault.variable(0, 0, 0));
  }

  private static void wrapsAround() {
    long least = Long.MIN_VALUE;
    long most = Long.MAX_VALUE;
    worksData("the largest and 1", least, most, 1, 0, 0, 1, 7, 0);
    worksData("the least and -1", most, least, 1, 0, 0, -1, 7, 0);
    worksData("the least less 1", most, least, 1, 0, 0, 1, 8, 0);
    worksData("0 less the least", least, least, 0, 0, 1, 0, 8, 0);
    worksData("twice the largest", -2, most, 1, 0, 0, 2, 9, 0);
    worksData("the least by -1", least, least, 1, 0, 0, -1, 9, 0);
    worksData("a square that is 0", 0, 1L << 32, 1, 0, 13, 0, 9, 0);
    worksData("the least cut by -1", least, least, 1, 0, 0, -1, 10, 0);
    worksData("the least cut by 1", least, least, 1, 0, 0, 1, 10, 0);
    worksData("the least cut by itself", 1, least, 1, 0, 13, 0, 10, 0);
    worksData("1 cut by the least", 0, least, 0, 1, 1, 0, 10, 0);
    worksData("below 0 it cuts, too", -3, -7, 1, 0, 0, 2, 10, 0);
    worksData("both below 0", 3, -7, 1, 0, 0, -2, 10, 0);
    worksData("0 cut", 0, 0, 1, 0, 0, -5, 10, 0);
    worksData("the least is less than 1", 1, least, 1, 0, 0, 1, 11, 0);
    worksData("1 is not less than the least", 0, least, 0, 1, 1, 0, 11, 0);
    worksData("the largest is not less than -1", 0, most, 1, 0, 0, -1, 11, 0);
    worksData("-1 is less than the largest", 1, most, 0, -1, 1, 0, 11, 0);
    worksData("the least is not less than itself", 0, least, 1, 0, 13, 0, 11, 0);
    worksData("the largest is the same as itself", 1, most, 1, 0, 13, 0, 12, 0);
  }

  private static void wholeLongs() {
    long high = 1L << 32;
    worksData("the least int", Integer.MIN_VALUE, 0, 0, Integer.MIN_VALUE);
    worksData("the largest int", Integer.MAX_VALUE, 0, 0, Integer.MAX_VALUE);
    worksData("high bits", high + 5, high + 5, 1, 0, 6, 3, 5, 3);
    worksData("high bits are not 0", 0, high, 1, 0, 0, 0, 12, 0);
    worksData("0 is less than high bits", 1, high, 0, 0, 1, 0, 11, 0);
    worksData("17 goes not by high bits", 7, high, 0, 7, 1, 0, 17, 4, 16, 5, 0, 9);
    worksData("17 goes by 0 alone", 9, 0, 0, 7, 1, 0, 17, 4, 16, 5, 0, 9);
    EventVault vault = new EventVault();
    vault.draft(1, 0, Long.MIN_VALUE);
    vault.draft(2, 15, Long.MAX_VALUE);
    vault.append(31, -1);
    Vaults.project(vault, 7, 1, 0, 18, 15);
    vault.step(7);
    vault.step(7);
    Due.is("emits the least", Long.MIN_VALUE, () -> vault.event(2, 4));
    Due.is("emits the largest", Long.MAX_VALUE, () -> vault.event(3, 4));
  }

  private static int[] after16(int... rest) {
    int[] program = new int[32 + rest.length];
    for (int i = 1; i < 32; i += 2) {
      program[i] = 3;
    }
    System.arraycopy(rest, 0, program, 32, rest.length);
    return program;
  }

  private static void fullAndEmptyStacks() {
    int[] takesTwo = {7, 8, 9, 10, 11, 12, 15};
    for (int op : takesTwo) {
      EventVault full = stepped(after16(op, 0));
      Due.is(op + " on 16", 0, () -> full.told(700));
      EventVault two = stepped(0, 1, 0, 1, op, 0);
      Due.is(op + " on two", 0, () -> two.told(700));
    }
    int[] leavesOneLess = {7, 8, 9, 10, 11, 12};
    for (int op : leavesOneLess) {
      EventVault again = stepped(after16(op, 0, 0, 1));
      Due.is(op + " on 16, and one more", 0, () -> again.told(700));
      breaks(op + " on 16, and two more", after16(op, 0, 0, 1, 0, 1));
    }
    breaks("15 on 16, and one more", after16(15, 0, 0, 1));
    int[] takesOne = {6, 14, 17, 18};
    for (int op : takesOne) {
      EventVault again = stepped(after16(op, op == 17 ? 17 : 0, 0, 1));
      Due.is(op + " on 16, and one more", 0, () -> again.told(700));
      EventVault one = stepped(0, 1, op, 0);
      Due.is(op + " on one", 0, () -> one.told(700));
      breaks(op + " on one, twice", 0, 1, op, op == 17 ? 2 : 0, op, 0);
    }
    int[] fifteen = java.util.Arrays.copyOfRange(after16(13, 0), 2, 34);
    EventVault doubled = stepped(fifteen);
    Due.is("13 on 15", 0, () -> doubled.told(700));
    breaks("13 on 16", after16(13, 0));
    EventVault none = stepped(16, 1, 19, 0);
    Due.is("16 and 19 on none", 0, () -> none.told(700));
  }

  /** 24 rounds of 8, and so many more that only push and drop. */
  private static int[] afterRounds(int more, boolean ends) {
    int[] rounds = {5, 0, 0, 1, 7, 0, 13, 0, 6, 0, 0, 24, 12, 0, 17, 0};
    int[] program = java.util.Arrays.copyOf(rounds, rounds.length + 2 * more);
    for (int i = 0; i < more; i++) {
      program[rounds.length + 2 * i] = i % 2 == 0 ? 0 : 14;
    }
    if (ends) {
      program[program.length - 2] = 19;
    }
    return program;
  }

  private static void twoHundred() {
    for (int more = 7; more <= 8; more++) {
      EventVault vault = stepped(afterRounds(more, false));
      Due.is("192 and " + more, 0, () -> vault.told(700));
      Due.is("24 rounds before " + more, 24, () -> vault.variable(0, STREAM, 0));
      EventVault ends = stepped(afterRounds(more, true));
      Due.is("192 and " + more + " with an end", 0, () -> ends.told(700));
    }
    breaks("192 and 9", afterRounds(9, false));
    EventVault next = Vaults.with(0, 1, 2);
    Vaults.project(next, 0, 5, 0, 0, 1, 7, 0, 13, 0, 6, 0, 0, 15, 12, 0, 17, 0, 0, 0, 6, 0);
    Due.is("some 120 of the first", 0, () -> next.step(0));
    Due.is("are not counted for the second", 1, () -> next.step(0));
  }

  private static void noneToFour() {
    for (int count = 0; count <= 4; count++) {
      EventVault vault = Vaults.with(0, 1, 2);
      int[] program = new int[4 * count + 2];
      for (int i = 0; i < count; i++) {
        program[4 * i + 1] = 10 + i;
        program[4 * i + 2] = 18;
        program[4 * i + 3] = 15 - i;
      }
      program[4 * count] = 19;
      Vaults.project(vault, 7, program);
      vault.step(7);
      int emitted = count;
      int before = vault.told(4);
      int records = vault.told(7);
      Due.is("step that emits " + count, 1, () -> vault.step(7));
      Due.is("bytes of " + count, before + 56 + 24 * count, () -> vault.told(4));
      Due.is("one record of " + count, records + 1, () -> vault.told(7));
      Due.is("version by " + count, 2 * count - 1, () -> vault.told(139));
      for (int i = 0; i < count; i++) {
        int nth = i;
        int position = 2 + emitted + i;
        Due.is("id " + i + " of " + count, 4 + i, () -> vault.event(position, 2));
        Due.is("type " + i + " of " + count, 15 - nth, () -> vault.event(position, 3));
        Due.is("data " + i + " of " + count, 10 + nth, () -> vault.event(position, 4));
      }
    }
    EventVault fifth = Vaults.with(0, 1);
    int[] program = new int[22];
    for (int i = 0; i < 20; i += 4) {
      program[i + 2] = 18;
    }
    program[20] = 19;
    Vaults.project(fifth, 0, program);
    Due.is("a fifth one", -2, () -> fifth.step(0));
    Due.is("none of them comes", 1, () -> fifth.told(2));
    Due.is("nor a version", -1, () -> fifth.told(132));
  }

  private static void cursorAtTheEdges() {
    EventVault empty = new EventVault();
    Vaults.project(empty, 0, 19, 0);
    empty.power(0);
    Due.unchanged("no event at all", empty, () -> Due.is("none at all", -1, () -> empty.step(0)));
    empty.power(-1);
    Vaults.append(empty, 0, 1);
    Due.is("the first that came", 0, () -> empty.step(0));
    Due.is("behind it", 1, () -> empty.told(600));
    Due.unchanged("none behind it", empty, () -> Due.is("none behind it", -1, () -> empty.step(0)));
    EventVault hidden = Vaults.with(0, 1, 2);
    hidden.settings(0, 0, 0, 2);
    Vaults.project(hidden, 0, 14, 0);
    Due.unchanged("none visible", hidden, () -> Due.is("none visible", -1, () -> hidden.step(0)));
    EventVault unwanted = Vaults.with(0, 1);
    unwanted.code(14, 0);
    unwanted.projection(0, ~1, -1, false);
    Due.unchanged("none wanted", unwanted, () -> Due.is("none wanted", -1, () -> unwanted.step(0)));
    Vaults.append(unwanted, 1, 2);
    Due.is("broken at the last", -2, () -> unwanted.step(0));
    Due.is("whose position is the cursor", 1, () -> unwanted.told(600));
    EventVault worked = Vaults.with(0, 1, 2);
    Vaults.project(worked, 0, 19, 0);
    worked.step(0);
    worked.settings(0, 0, 0, 2);
    Due.is("hidden before it was worked", -1, () -> worked.step(0));
    Due.is("the cursor stays", 1, () -> worked.told(600));
  }

  /** 2500 events, of which the last two are visible. More calls than an object is promised for. */
  private static void atTheLastPosition() {
    EventVault vault = Vaults.most();
    vault.settings(31, 2, 0, 0);
    Vaults.project(vault, 0, 4, 0, 18, 0);
    Vaults.project(vault, 1, 4, 0, 6, 0);
    Vaults.project(vault, 2, 14, 0);
    Due.badState("2501 events", vault, () -> vault.step(0));
    Due.is("none emitted needs no position", 2498, () -> vault.step(1));
    Due.is("the last position", 2499, () -> vault.step(1));
    Due.is("behind it", 2500, () -> vault.told(601));
    Due.is("none is behind it", -1, () -> vault.step(1));
    Due.is("broken needs no position", -2, () -> vault.step(2));
    Due.is("its cursor", 2498, () -> vault.told(602));
    Due.is("the last number", 3, () -> vault.variable(1, 31, 0));
    EventVault last = Vaults.many();
    Vaults.append(last, 0, 1);
    Vaults.project(last, 0, 0, 1, 18, 0, 0, 1, 18, 0, 0, 1, 18, 0, 0, 1, 18, 0);
    Due.badState("four, but three positions are left", last, () -> last.step(0));
    Vaults.project(last, 0, 0, 1, 18, 0, 0, 1, 18, 0, 0, 1, 18, 0);
    Due.is("three to the last position", 2496, () -> last.step(0));
    Due.is("its id", 4 * 2496 + 2, () -> last.event(2499, 2));
  }

  private static void refusedChangesNothing() {
    EventVault vault = Vaults.busy();
    int[] notMade = {-1, 1, 8, Integer.MIN_VALUE, Integer.MAX_VALUE};
    for (int p : notMade) {
      Due.missing("projection " + p, vault, () -> vault.step(p));
    }
    Due.badState("broken", vault, () -> vault.step(6));
    EventVault off = Vaults.busyAndOff();
    Due.badState("off", off, () -> off.step(0));
    Due.badState("off, and not made", off, () -> off.step(1));
    Due.badState("off, and broken", off, () -> off.step(6));
    EventVault full = Vaults.busyAndFull(72);
    Due.badState("no room", full, () -> full.step(0));
    full.power(0);
    Due.badState("no room, so power does not fail", full, () -> full.step(0));
    EventVault fits = Vaults.busyAndFull(80);
    Due.is("just so much room", 2, () -> fits.step(0));
    Due.is("none is left", 0, () -> Vaults.free(fits));
    Due.badState("broken, and full", fits, () -> fits.step(6));
    EventVault none = Vaults.busy();
    none.code(19, 0);
    none.projection(1, 1 << 9, -1, false);
    Vaults.fillUp(none, 0);
    Due.is("none to be worked needs no room", -1, () -> none.step(1));
    breaksWithRoom(24, -2, 1);
    breaksWithRoom(16, 0, 0);
    EventVault small = Vaults.with(0, 1);
    Vaults.project(small, 0, 1, 0, 6, 0);
    Vaults.fillUp(small, 48);
    Due.badState("no room for 56", small, () -> small.step(0));
    EventVault just = Vaults.with(0, 1);
    Vaults.project(just, 0, 1, 0, 6, 0);
    Vaults.fillUp(just, 56);
    Due.is("room for 56", 0, () -> just.step(0));
  }

  private static void breaksWithRoom(int room, int want, int broken) {
    EventVault vault = Vaults.with(0, 1);
    Vaults.project(vault, 0, 14, 0);
    Vaults.fillUp(vault, room);
    if (broken == 0) {
      Due.badState("no room to be broken in " + room, vault, () -> vault.step(0));
    } else {
      Due.is("room to be broken in " + room, want, () -> vault.step(0));
    }
    Due.is("broken in " + room, broken, () -> vault.told(700));
  }
}
