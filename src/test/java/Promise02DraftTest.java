public final class Promise02DraftTest {
  public static void main(String[] args) {
    EventVault vault = new EventVault();
    Due.badArgument("type -1", () -> vault.draft(1, -1, 0));
    Due.badArgument("type 16", () -> vault.draft(1, 16, 0));
    Due.badArgument("the least type", () -> vault.draft(1, Integer.MIN_VALUE, 0));
    Due.is("none was drafted", 0, () -> vault.told(5));
    for (int i = 1; i <= 8; i++) {
      int count = i;
      Due.is("draft " + i, i, () -> vault.draft(-count, count == 8 ? 15 : count - 1, Long.MIN_VALUE + count));
    }
    Due.badState("a ninth one", () -> vault.draft(9, 0, 0));
    Due.badArgument("a ninth one of no type", () -> vault.draft(9, 16, 0));
    Due.is("eight were drafted", 8, () -> vault.told(5));
    Due.is("no record yet", 0, () -> vault.told(7));
    Due.is("append", 0, () -> vault.append(3, -1));
    Due.is("id", -1, () -> vault.event(0, 2));
    Due.is("type", 15, () -> vault.event(7, 3));
    Due.is("data", Long.MIN_VALUE + 8, () -> vault.event(7, 4));
    Due.is("one more behind", 1, () -> vault.draft(9, 0, 0));
    whileOff();
    smallestAndLargest();
    refusedChangesNothing();
    Due.end();
  }

  private static void whileOff() {
    EventVault vault = new EventVault();
    vault.draft(1, 0, 0);
    Vaults.turnOff(vault);
    Due.is("empty as it is off", 0, () -> vault.told(5));
    Due.is("draft while off", 1, () -> vault.draft(1, 0, 0));
    Due.is("one while off", 1, () -> vault.told(5));
    vault.reopen();
    Due.is("empty by reopen", 0, () -> vault.told(5));
  }

  private static void smallestAndLargest() {
    EventVault vault = new EventVault();
    Due.is("the smallest of all", 1, () -> vault.draft(Integer.MIN_VALUE, 0, Long.MIN_VALUE));
    Due.is("the largest of all", 2, () -> vault.draft(Integer.MAX_VALUE, 15, Long.MAX_VALUE));
    vault.append(0, -1);
    long[][] want = {{Integer.MIN_VALUE, 0, Long.MIN_VALUE}, {Integer.MAX_VALUE, 15, Long.MAX_VALUE}};
    for (int i = 0; i < 2; i++) {
      for (int field = 0; field < 3; field++) {
        int position = i;
        int what = 2 + field;
        Due.is("event(" + i + ", " + what + ")", want[i][field], () -> vault.event(position, what));
      }
    }
    EventVault types = new EventVault();
    for (int type = 0; type < 16; type++) {
      types.draft(type, type, 0);
      Due.is("type " + type, type, () -> types.event(types.append(0, -2), 3));
    }
  }

  private static void refusedChangesNothing() {
    EventVault vault = Vaults.busy();
    vault.draft(71, 4, 710);
    Due.badArgument("type -1", vault, () -> vault.draft(99, -1, 0));
    Due.badArgument("type 16", vault, () -> vault.draft(99, 16, 0));
    Due.badArgument("the least type", vault, () -> vault.draft(99, Integer.MIN_VALUE, 0));
    Due.badArgument("the highest type", vault, () -> vault.draft(99, Integer.MAX_VALUE, 0));
    for (int i = 2; i <= 8; i++) {
      vault.draft(70 + i, 4, 10 * (70 + i));
    }
    Due.badState("a ninth one", vault, () -> vault.draft(99, 9, 9));
    int first = vault.append(9, -1);
    for (int i = 0; i < 8; i++) {
      int position = first + i;
      Due.is("id of " + i, 71 + i, () -> vault.event(position, 2));
      Due.is("type of " + i, 4, () -> vault.event(position, 3));
      Due.is("data of " + i, 10 * (71 + i), () -> vault.event(position, 4));
    }
    EventVault off = Vaults.off();
    for (int i = 1; i <= 8; i++) {
      off.draft(i, 0, 0);
    }
    Due.badState("a ninth one while off", off, () -> off.draft(9, 0, 0));
  }
}
