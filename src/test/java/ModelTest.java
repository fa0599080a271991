import java.util.Random;

/** Rows of calls, drawn by a random source with a fixed start, on an object and on the model. */
public final class ModelTest {
  private static final int RUNS = 400;
  private static final int CALLS = 512;
  private static final int[] ODD = {-3, -1, 0, 1, 8, 16, 32, 40, 2501, Integer.MAX_VALUE, Integer.MIN_VALUE};

  private final Random random;
  private final EventVault vault = new EventVault();
  private final Model model = new Model();
  private final StringBuilder calls = new StringBuilder();
  private final int streams;
  private final int groups;
  private final int odds;
  private final int ids;
  private final int[] taken = new int[24];
  private boolean same = true;

  private ModelTest(int run) {
    random = new Random(run);
    streams = 1 + random.nextInt(3);
    groups = 1 + random.nextInt(2);
    odds = random.nextInt(3) == 0 ? 12 : 200;
    ids = random.nextInt(2) == 0 ? 30 : 1000;
  }

  public static void main(String[] args) {
    for (int run = 0; run < RUNS; run++) {
      new ModelTest(run).run();
    }
    Due.end();
  }

  private void run() {
    for (int i = 0; i < CALLS && same; i++) {
      oneOf(random.nextInt(100));
      if (i % 16 == 0) {
        compareAll();
      }
    }
    compareAll();
  }

  private void oneOf(int percent) {
    if (percent < 20) {
      appended();
    } else if (percent < 50) {
      consumed();
    } else if (percent < 70) {
      projected();
    } else if (percent < 82) {
      asked();
    } else {
      kept();
    }
  }

  private void appended() {
    int drafted = odd(random.nextInt(4));
    for (int i = 0; i < drafted && i < 9; i++) {
      int id = random.nextInt(ids);
      int type = odd(random.nextInt(16));
      long data = random.nextInt(5) == 0 ? random.nextLong() : random.nextInt(7) - 3;
      compare("draft " + id + " " + type + " " + data, () -> vault.draft(id, type, data),
          () -> model.draft(id, type, data));
    }
    int stream = stream();
    int expected = odd(expected(stream));
    compare("append " + stream + " " + expected, () -> vault.append(stream, expected),
        () -> model.append(stream, expected));
  }

  /** Anything, the version, or one that mostly lies below it. */
  private int expected(int stream) {
    int kind = random.nextInt(4);
    boolean known = kind == 1 && stream >= 0 && stream < 40;
    return known ? vault.told(100 + stream) : kind == 2 ? random.nextInt(12) - 1 : -2;
  }

  private void consumed() {
    int g = odd(random.nextInt(groups));
    int position = odd(random.nextInt(4) == 0 ? anyPosition() : taken[random.nextInt(taken.length)]);
    int kind = random.nextInt(20);
    if (kind == 0) {
      grouped(g);
    } else if (kind < 12) {
      String got = compare("take " + g, () -> vault.take(g), () -> model.take(g));
      taken[random.nextInt(taken.length)] = got.startsWith("throws") ? 0 : Integer.parseInt(got);
    } else if (kind < 16) {
      compare("acknowledge " + g + " " + position, () -> vault.acknowledge(g, position),
          () -> model.acknowledge(g, position));
    } else {
      compare("refuse " + g + " " + position, () -> vault.refuse(g, position), () -> model.refuse(g, position));
    }
  }

  private void grouped(int g) {
    int stream = random.nextInt(3) == 0 ? stream() : -1;
    int position = odd(random.nextInt(2) * anyPosition());
    int retries = odd(random.nextInt(3));
    compare("group " + g + " " + stream + " " + position + " " + retries,
        () -> vault.group(g, stream, position, retries), () -> model.group(g, stream, position, retries));
  }

  private void projected() {
    int p = odd(random.nextInt(2));
    if (random.nextInt(6) > 0) {
      compare("step " + p, () -> vault.step(p), () -> model.step(p));
      return;
    }
    int length = random.nextInt(3) == 0 ? random.nextInt(66) : random.nextInt(9);
    for (int i = 0; i < length; i++) {
      coded(length);
    }
    int mask = random.nextInt(4) == 0 ? random.nextInt() : -1;
    boolean whole = random.nextBoolean();
    compare("projection " + p + " " + mask + " " + whole, () -> vault.projection(p, mask, mask | 1, whole),
        () -> model.projection(p, mask, mask | 1, whole));
  }

  /** Half of all instructions push, so that programs do not break at once. */
  private void coded(int length) {
    int op = odd(random.nextBoolean() ? random.nextInt(6) : random.nextInt(20));
    int a = odd(op == 16 || op == 17 ? random.nextInt(length + 1) : random.nextInt(4));
    compare("code " + op + " " + a, () -> vault.code(op, a), () -> model.code(op, a));
  }

  private void asked() {
    int stream = stream();
    int position = odd(anyPosition());
    int small = odd(random.nextInt(5));
    boolean back = random.nextBoolean();
    compare("read " + stream + " " + position + " " + small + " " + back,
        () -> vault.read(stream, position, small, back), () -> model.read(stream, position, small, back));
    compare("event " + position + " " + small, () -> vault.event(position, small),
        () -> model.event(position, small));
    int p = odd(random.nextInt(2));
    int v = odd(random.nextInt(4));
    compare("variable " + p + " " + stream + " " + v, () -> vault.variable(p, stream, v),
        () -> model.variable(p, stream, v));
    int what = random.nextInt(900) - 20;
    compare("told " + what, () -> vault.told(what), () -> model.told(what));
  }

  private void kept() {
    int kind = random.nextInt(40);
    int stream = stream();
    if (kind < 10) {
      int n = odd(random.nextInt(5) == 0 ? 8 : 1 + random.nextInt(3));
      compare("tick " + n, () -> vault.tick(n), () -> model.tick(n));
    } else if (kind < 20) {
      int most = odd(random.nextInt(3) * random.nextInt(5));
      int age = odd(random.nextInt(2) * random.nextInt(20));
      int from = odd(random.nextInt(2) * random.nextInt(12));
      int of = random.nextInt(5) == 0 ? 32 + random.nextInt(2) : stream;
      compare("settings " + of + " " + most + " " + age + " " + from, () -> vault.settings(of, most, age, from),
          () -> model.settings(of, most, age, from));
    } else if (kind < 22) {
      int of = random.nextInt(8) == 0 ? stream : 3 + random.nextInt(29);
      compare("end " + of, () -> vault.end(of), () -> model.end(of));
    } else if (kind < 27) {
      compare("scavenge", vault::scavenge, model::scavenge);
    } else if (kind < 29) {
      int k = odd(random.nextInt(8) == 0 ? 70000 : random.nextInt(200));
      compare("power " + k, Due.call(() -> vault.power(k)), Due.call(() -> model.power(k)));
    } else if (vault.told(0) == 0 || kind == 39) {
      compare("reopen", vault::reopen, model::reopen);
    }
  }

  private int stream() {
    return odd(random.nextInt(streams));
  }

  private int anyPosition() {
    return random.nextInt(Math.max(vault.told(2), 0) + 2);
  }

  private int odd(int usual) {
    return random.nextInt(odds) == 0 ? ODD[random.nextInt(ODD.length)] : usual;
  }

  private void compareAll() {
    for (int what = 0; what < 800 && same; what++) {
      int asked = what;
      if (what % 100 < (what / 100 == 1 || what / 100 == 2 ? 40 : 8)) {
        compare("told " + what, () -> vault.told(asked), () -> model.told(asked));
      }
    }
    int count = vault.told(2);
    for (int position = 0; position < count && same; position++) {
      int at = position;
      compare("event " + at, () -> vault.event(at, at % 6), () -> model.event(at, at % 6));
    }
    compare("check", vault::check, model::check);
  }

  private String compare(String call, Due.Call got, Due.Call want) {
    String due = Due.told(want);
    String answer = Due.told(got);
    calls.append(call).append(" -> ").append(due).append('\n');
    if (same && !due.equals(answer)) {
      same = false;
      System.out.print(calls.substring(Math.max(0, calls.length() - 3000)));
      Due.same(call, due, answer);
    }
    return due;
  }
}
