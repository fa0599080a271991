public final class Promise08EventTest {
  public static void main(String[] args) {
    EventVault vault = Vaults.with(4, 1, 2);
    vault.tick(5);
    vault.draft(Integer.MIN_VALUE, 15, -7);
    vault.append(5, -1);
    long[] want = {5, 0, Integer.MIN_VALUE, 15, -7, 5};
    for (int what = 0; what < want.length; what++) {
      int asked = what;
      Due.is("what " + what, want[what], () -> vault.event(2, asked));
    }
    Due.is("number", 1, () -> vault.event(1, 1));
    Due.is("time", 0, () -> vault.event(1, 5));
    Due.badArgument("what 6", () -> vault.event(2, 6));
    Due.badArgument("what -1", () -> vault.event(2, -1));
    Due.missing("position 3", () -> vault.event(3, 0));
    Due.missing("position -1", () -> vault.event(-1, 0));
    Due.missing("the highest position", () -> vault.event(Integer.MAX_VALUE, 0));
    Due.missing("neither a position nor a question", () -> vault.event(3, 6));
    vault.settings(4, 1, 0, 0);
    Due.missing("a hidden one", () -> vault.event(0, 0));
    Due.is("a visible one", 4, () -> vault.event(1, 0));
    Vaults.turnOff(vault);
    Due.badState("off", () -> vault.event(1, 0));
    Due.badState("off, and no position", () -> vault.event(-1, 0));
    Due.badState("off, and no question", () -> vault.event(1, 6));
    edges();
    hiddenByEachRule();
    refusedChangesNothing();
    Due.end();
  }

  private static void edges() {
    EventVault vault = Vaults.with(0, 1);
    vault.tick(1000);
    Vaults.append(vault, 31, 2);
    Vaults.project(vault, 7, 1, 0, 18, 15);
    vault.step(7);
    vault.step(7);
    long[][] want = {{0, 0, 1, 0, 10, 0}, {31, 0, 2, 0, 20, 1000}, {39, 0, 0, 15, 10, 1000}, {39, 1, 4, 15, 20, 1000}};
    for (int at = 0; at < want.length; at++) {
      for (int field = 0; field < 6; field++) {
        int position = at;
        int what = field;
        Due.is("event(" + at + ", " + what + ")", want[at][what], () -> vault.event(position, what));
      }
    }
    Due.missing("behind the last", () -> vault.event(4, 0));
    EventVault empty = new EventVault();
    Due.missing("of none", () -> empty.event(0, 0));
    Due.missing("before the first of none", () -> empty.event(-1, 0));
  }

  private static void hiddenByEachRule() {
    EventVault vault = Vaults.with(0, 1, 2);
    vault.settings(0, 0, 0, 1);
    Due.missing("below from", () -> vault.event(0, 0));
    Due.is("at from", 0, () -> vault.event(1, 0));
    Vaults.append(vault, 1, 1, 2);
    vault.settings(1, 1, 0, 0);
    Due.missing("too many", () -> vault.event(2, 0));
    Due.is("not too many", 1, () -> vault.event(3, 0));
    Vaults.append(vault, 2, 1);
    vault.settings(2, 0, 2, 0);
    vault.tick(1);
    Vaults.append(vault, 2, 2);
    Due.is("not too old", 2, () -> vault.event(4, 0));
    vault.tick(1);
    Due.missing("too old", () -> vault.event(4, 0));
    Due.is("which is 2, not 1", 2, () -> vault.event(5, 0));
    vault.end(0);
    Due.missing("ended", () -> vault.event(1, 0));
    vault.scavenge();
    int[] gone = {0, 1, 2, 4};
    for (int position : gone) {
      Due.missing("gone " + position, () -> vault.event(position, 0));
    }
    Due.is("positions stay as they are", 2, () -> vault.event(5, 0));
  }

  private static void refusedChangesNothing() {
    EventVault vault = Vaults.busy();
    int[] noQuestions = {-1, 6, Integer.MIN_VALUE, Integer.MAX_VALUE};
    for (int what : noQuestions) {
      Due.badArgument("what " + what, vault, () -> vault.event(1, what));
      Due.missing("hidden, and what " + what, vault, () -> vault.event(0, what));
    }
    int[] noPositions = {-1, vault.told(2), 2499, 2500, Integer.MIN_VALUE, Integer.MAX_VALUE};
    for (int position : noPositions) {
      Due.missing("position " + position, vault, () -> vault.event(position, 0));
    }
    EventVault off = Vaults.busyAndOff();
    Due.badState("off", off, () -> off.event(1, 0));
    Due.badState("off, and a hidden one", off, () -> off.event(0, 0));
    Due.badState("off, and what 6", off, () -> off.event(1, 6));
  }
}
