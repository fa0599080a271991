import java.util.ArrayDeque;
import java.util.ArrayList;
import java.util.List;
import java.util.NoSuchElementException;
import java.util.TreeMap;
import java.util.TreeSet;

/**
 * The document's words once more, slowly: each event has a mark of its own if it was ever hidden, and what lasts is
 * a journal of changes that is worked anew, from nothing, when it is reopened. Scavenging leaves one change, which
 * knows nothing of what was hidden.
 */
final class Model {
  private static final class Event {
    int position;
    int stream;
    int number;
    int id;
    int type;
    long data;
    int time;
    boolean hidden;

    Event copy() {
      Event copied = new Event();
      copied.position = position;
      copied.stream = stream;
      copied.number = number;
      copied.id = id;
      copied.type = type;
      copied.data = data;
      copied.time = time;
      return copied;
    }
  }

  private static final class Stream {
    int version = -1;
    int most;
    int age;
    int from;
    boolean ended;
  }

  private static final class Group {
    int stream;
    int from;
    int retries;
    TreeSet<Integer> done = new TreeSet<>();
    TreeSet<Integer> parked = new TreeSet<>();
  }

  private static final class Projection {
    List<int[]> program;
    int streams;
    int types;
    boolean whole;
    long[][] variables = new long[32][4];
    int cursor;
    boolean broken;
  }

  private static final class State {
    TreeMap<Integer, Event> events = new TreeMap<>();
    Stream[] streams = new Stream[40];
    Group[] groups = new Group[8];
    Projection[] projections = new Projection[8];
    int positions;
    int time;

    State() {
      for (int s = 0; s < 40; s++) {
        streams[s] = new Stream();
      }
    }

    List<Event> visible() {
      List<Event> seen = new ArrayList<>();
      for (Event event : events.values()) {
        if (!event.hidden) {
          seen.add(event);
        }
      }
      return seen;
    }

    List<Event> visible(int stream) {
      List<Event> seen = visible();
      seen.removeIf(event -> stream != -1 && event.stream != stream);
      return seen;
    }

    void add(int stream, int id, int type, long data) {
      Event event = new Event();
      event.position = positions++;
      event.stream = stream;
      event.number = ++streams[stream].version;
      event.id = id;
      event.type = type;
      event.data = data;
      event.time = time;
      events.put(event.position, event);
    }

    void hide() {
      for (Event event : events.values()) {
        Stream s = streams[event.stream];
        boolean old = s.age != 0 && time - event.time >= s.age;
        boolean tooMany = s.most != 0 && event.number <= (long) s.version - s.most;
        event.hidden = event.hidden || event.number < s.from || tooMany || old || s.ended;
      }
    }
  }

  private interface Change {
    void work(State state);
  }

  private record Entry(int bytes, Change change) {
  }

  private static final class Broken extends Exception {
    private static final long serialVersionUID = 1;
  }

  private State state = new State();
  private List<Entry> journal = new ArrayList<>();
  private boolean on = true;
  private int powerAt = -1;
  private List<long[]> draft = new ArrayList<>();
  private List<int[]> code = new ArrayList<>();
  private final List<TreeMap<Integer, Integer>> out = new ArrayList<>();
  private final List<TreeMap<Integer, Integer>> tries = new ArrayList<>();

  Model() {
    for (int g = 0; g < 8; g++) {
      out.add(new TreeMap<>());
      tries.add(new TreeMap<>());
    }
  }

  int draft(int id, int type, long data) {
    argument(type >= 0 && type <= 15);
    state(draft.size() < 8);
    draft.add(new long[] {id, type, data});
    return draft.size();
  }

  int append(int stream, int expected) {
    argument(stream >= 0 && stream <= 31 && expected >= -2);
    state(on);
    List<long[]> rows = draft;
    draft = new ArrayList<>();
    state(!rows.isEmpty() && !state.streams[stream].ended);
    List<Event> there = state.visible(stream);
    boolean fits = expected == -2 || expected == state.streams[stream].version;
    boolean known = false;
    for (Event event : there) {
      for (long[] row : rows) {
        known = known || event.id == row[0];
      }
    }
    if (!fits || known) {
      return place(there, rows, expected);
    }
    state(state.positions + rows.size() <= 2500);
    int first = state.positions;
    write(24 + 24 * rows.size(), s -> {
      for (long[] row : rows) {
        s.add(stream, (int) row[0], (int) row[1], row[2]);
      }
    });
    return first;
  }

  private int place(List<Event> there, List<long[]> rows, int expected) {
    for (int at = 0; at + rows.size() <= there.size(); at++) {
      boolean same = expected == -2 || there.get(at).number == expected + 1L;
      for (int i = 0; i < rows.size(); i++) {
        Event event = there.get(at + i);
        same = same && event.id == rows.get(i)[0] && event.number == there.get(at).number + i;
      }
      if (same) {
        return there.get(at).position;
      }
    }
    throw new IllegalStateException();
  }

  int settings(int stream, int most, int age, int from) {
    argument(stream >= 0 && stream <= 39 && most >= 0 && age >= 0 && from >= 0);
    state(on && !state.streams[stream].ended);
    write(32, s -> {
      s.streams[stream].most = most;
      s.streams[stream].age = age;
      s.streams[stream].from = from;
    });
    List<Event> there = state.visible(stream);
    return there.isEmpty() ? state.streams[stream].version + 1 : there.get(0).number;
  }

  int end(int stream) {
    argument(stream >= 0 && stream <= 31);
    state(on && !state.streams[stream].ended);
    int visible = state.visible(stream).size();
    write(32, s -> s.streams[stream].ended = true);
    return visible;
  }

  int tick(int n) {
    argument(n >= 1 && n <= 1000);
    state(on);
    int now = state.time + n;
    int due = 0;
    List<int[]> parked = new ArrayList<>();
    for (int g = 0; g < 8; g++) {
      for (int position : out.get(g).keySet()) {
        if (out.get(g).get(position) <= now) {
          due++;
          if (spent(g, position)) {
            parked.add(new int[] {g, position});
          }
        }
      }
    }
    write(32 + 8 * parked.size(), s -> {
      for (int[] one : parked) {
        s.groups[one[0]].parked.add(one[1]);
      }
      s.time = now;
    });
    for (int g = 0; g < 8; g++) {
      out.get(g).values().removeIf(till -> till <= now);
    }
    return due;
  }

  int read(int stream, int n, int i, boolean back) {
    argument(stream >= -1 && stream <= 39 && i >= 0 && i <= 100);
    state(on);
    List<Event> there = state.visible(stream);
    if (back) {
      java.util.Collections.reverse(there);
    }
    there.removeIf(event -> {
      int at = stream == -1 ? event.position : event.number;
      return back ? at > n : at < n;
    });
    return i < there.size() ? there.get(i).position : -1;
  }

  long event(int position, int what) {
    state(on);
    Event event = state.events.get(position);
    found(event != null && !event.hidden);
    argument(what >= 0 && what <= 5);
    return new long[] {event.stream, event.number, event.id, event.type, event.data, event.time}[what];
  }

  int group(int g, int stream, int position, int retries) {
    argument(g >= 0 && g <= 7 && stream >= -1 && stream <= 39);
    argument(position >= 0 && position <= 2500 && retries >= 0 && retries <= 9);
    state(on);
    write(32, s -> {
      Group group = new Group();
      group.stream = stream;
      group.from = position;
      group.retries = retries;
      s.groups[g] = group;
    });
    out.get(g).clear();
    tries.get(g).clear();
    return wanted(g).size();
  }

  private List<Event> wanted(int g) {
    List<Event> there = state.visible(state.groups[g].stream);
    there.removeIf(event -> event.position < state.groups[g].from);
    return there;
  }

  int take(int g) {
    state(on);
    found(g >= 0 && g <= 7 && state.groups[g] != null);
    if (out.get(g).size() == 16) {
      return -1;
    }
    for (Event event : wanted(g)) {
      int position = event.position;
      boolean open = !state.groups[g].done.contains(position) && !state.groups[g].parked.contains(position);
      if (open && !out.get(g).containsKey(position)) {
        out.get(g).put(position, state.time + 8);
        tries.get(g).merge(position, 1, Integer::sum);
        return position;
      }
    }
    return -1;
  }

  int acknowledge(int g, int position) {
    state(on);
    found(g >= 0 && g <= 7 && out.get(g).containsKey(position));
    write(32, s -> s.groups[g].done.add(position));
    out.get(g).remove(position);
    return out.get(g).size();
  }

  int refuse(int g, int position) {
    state(on);
    found(g >= 0 && g <= 7 && out.get(g).containsKey(position));
    boolean parks = spent(g, position);
    if (parks) {
      write(24, s -> s.groups[g].parked.add(position));
    }
    out.get(g).remove(position);
    return parks ? 1 : 0;
  }

  private boolean spent(int g, int position) {
    return tries.get(g).get(position) > state.groups[g].retries;
  }

  int code(int op, int a) {
    argument(op >= 0 && op <= 19);
    argument(op != 5 && op != 6 || a >= 0 && a <= 3);
    argument(op != 18 || a >= 0 && a <= 15);
    state(code.size() < 64);
    code.add(new int[] {op, a});
    return code.size();
  }

  int projection(int p, int streams, int types, boolean whole) {
    argument(p >= 0 && p <= 7 && !code.isEmpty());
    for (int[] one : code) {
      argument(one[0] != 16 && one[0] != 17 || one[1] >= 0 && one[1] <= code.size());
    }
    state(on);
    List<int[]> program = code;
    write(24 + 8 * program.size(), s -> {
      Projection made = new Projection();
      made.program = program;
      made.streams = streams;
      made.types = types;
      made.whole = whole;
      s.projections[p] = made;
    });
    code = new ArrayList<>();
    return program.size();
  }

  int step(int p) {
    state(on);
    found(p >= 0 && p <= 7 && state.projections[p] != null);
    Projection projection = state.projections[p];
    state(!projection.broken);
    for (Event event : state.visible()) {
      boolean wanted = event.stream < 32 && (projection.streams & 1 << event.stream) != 0;
      if (wanted && (projection.types & 1 << event.type) != 0 && event.position >= projection.cursor) {
        return work(p, event);
      }
    }
    return -1;
  }

  private int work(int p, Event event) {
    int row = state.projections[p].whole ? 0 : event.stream;
    long[] variables = state.projections[p].variables[row].clone();
    List<long[]> emitted = new ArrayList<>();
    try {
      run(state.projections[p].program, event, variables, emitted);
    } catch (Broken broken) {
      write(24, s -> {
        s.projections[p].broken = true;
        s.projections[p].cursor = event.position;
      });
      return -2;
    }
    state(state.positions + emitted.size() <= 2500);
    write(56 + 24 * emitted.size(), s -> {
      s.projections[p].cursor = event.position + 1;
      s.projections[p].variables[row] = variables.clone();
      for (int i = 0; i < emitted.size(); i++) {
        s.add(32 + p, 4 * event.position + i, (int) emitted.get(i)[0], emitted.get(i)[1]);
      }
    });
    return event.position;
  }

  private static void run(List<int[]> program, Event event, long[] variables, List<long[]> emitted) throws Broken {
    ArrayDeque<Long> stack = new ArrayDeque<>();
    int next = 0;
    for (int done = 1; next < program.size(); done++) {
      unbroken(done <= 200);
      int op = program.get(next)[0];
      int a = program.get(next)[1];
      next++;
      long top = takes(op) > 0 ? pop(stack) : 0;
      long lower = takes(op) > 1 ? pop(stack) : 0;
      switch (op) {
        case 0 -> push(stack, a);
        case 1 -> push(stack, event.data);
        case 2 -> push(stack, event.type);
        case 3 -> push(stack, event.stream);
        case 4 -> push(stack, event.number);
        case 5 -> push(stack, variables[a]);
        case 6 -> variables[a] = top;
        case 7 -> push(stack, lower + top);
        case 8 -> push(stack, lower - top);
        case 9 -> push(stack, lower * top);
        case 10 -> {
          unbroken(top != 0);
          push(stack, lower / top);
        }
        case 11 -> push(stack, lower < top ? 1 : 0);
        case 12 -> push(stack, lower == top ? 1 : 0);
        case 13 -> {
          push(stack, top);
          push(stack, top);
        }
        case 14 -> { }
        case 15 -> {
          push(stack, top);
          push(stack, lower);
        }
        case 16 -> next = a;
        case 17 -> next = top == 0 ? a : next;
        case 18 -> {
          unbroken(emitted.size() < 4);
          emitted.add(new long[] {a, top});
        }
        default -> {
          return;
        }
      }
    }
  }

  private static int takes(int op) {
    if (op >= 7 && op <= 12 || op == 15) {
      return 2;
    }
    return op == 6 || op == 13 || op == 14 || op == 17 || op == 18 ? 1 : 0;
  }

  private static void push(ArrayDeque<Long> stack, long value) throws Broken {
    unbroken(stack.size() < 16);
    stack.push(value);
  }

  private static long pop(ArrayDeque<Long> stack) throws Broken {
    unbroken(!stack.isEmpty());
    return stack.pop();
  }

  private static void unbroken(boolean so) throws Broken {
    if (!so) {
      throw new Broken();
    }
  }

  long variable(int p, int stream, int v) {
    state(on);
    found(p >= 0 && p <= 7 && state.projections[p] != null);
    argument(stream >= 0 && stream <= 31 && v >= 0 && v <= 3);
    return state.projections[p].variables[stream][v];
  }

  int scavenge() {
    state(on);
    Entry kept = new Entry(keptBytes(), keptState());
    state(kept.bytes <= 100000);
    boolean fails = powerAt >= 0;
    if (!fails || powerAt >= kept.bytes) {
      journal = new ArrayList<>(List.of(kept));
    }
    if (fails) {
      turnOff();
      throw new ArithmeticException();
    }
    return kept.bytes;
  }

  private int keptBytes() {
    int bytes = 64 + 24 * state.visible().size();
    for (Stream s : state.streams) {
      bytes += s.version > -1 || s.most != 0 || s.age != 0 || s.from != 0 || s.ended ? 24 : 0;
    }
    for (int g = 0; g < 8; g++) {
      if (state.groups[g] != null) {
        bytes += 32;
        for (Event event : wanted(g)) {
          bytes += state.groups[g].done.contains(event.position) ? 4 : 0;
          bytes += state.groups[g].parked.contains(event.position) ? 4 : 0;
        }
      }
    }
    for (Projection p : state.projections) {
      bytes += p == null ? 0 : 64 + 8 * p.program.size();
      for (int s = 0; p != null && s < 32; s++) {
        long[] v = p.variables[s];
        bytes += v[0] != 0 || v[1] != 0 || v[2] != 0 || v[3] != 0 ? 40 : 0;
      }
    }
    return bytes;
  }

  private Change keptState() {
    State kept = copy(state);
    return s -> {
      State copied = copy(kept);
      s.events = copied.events;
      s.streams = copied.streams;
      s.groups = copied.groups;
      s.projections = copied.projections;
      s.positions = copied.positions;
      s.time = copied.time;
    };
  }

  private static State copy(State from) {
    State to = new State();
    to.positions = from.positions;
    to.time = from.time;
    for (Event event : from.visible()) {
      to.events.put(event.position, event.copy());
    }
    for (int s = 0; s < 40; s++) {
      to.streams[s].version = from.streams[s].version;
      to.streams[s].most = from.streams[s].most;
      to.streams[s].age = from.streams[s].age;
      to.streams[s].from = from.streams[s].from;
      to.streams[s].ended = from.streams[s].ended;
    }
    for (int i = 0; i < 8; i++) {
      to.groups[i] = from.groups[i] == null ? null : copy(from.groups[i], to.events);
      to.projections[i] = from.projections[i] == null ? null : copy(from.projections[i]);
    }
    return to;
  }

  private static Group copy(Group from, TreeMap<Integer, Event> kept) {
    Group to = new Group();
    to.stream = from.stream;
    to.from = from.from;
    to.retries = from.retries;
    to.done.addAll(from.done);
    to.done.retainAll(kept.keySet());
    to.parked.addAll(from.parked);
    to.parked.retainAll(kept.keySet());
    return to;
  }

  private static Projection copy(Projection from) {
    Projection to = new Projection();
    to.program = from.program;
    to.streams = from.streams;
    to.types = from.types;
    to.whole = from.whole;
    to.cursor = from.cursor;
    to.broken = from.broken;
    for (int s = 0; s < 32; s++) {
      to.variables[s] = from.variables[s].clone();
    }
    return to;
  }

  void power(int k) {
    argument(k >= -1 && k <= 70000);
    powerAt = k;
  }

  int reopen() {
    turnOff();
    on = true;
    powerAt = -1;
    state = new State();
    for (Entry entry : journal) {
      entry.change.work(state);
      state.hide();
    }
    return state.positions;
  }

  int told(int what) {
    int which = what % 100;
    int most = new int[] {7, 39, 39, 7, 7, 7, 7, 7}[what >= 0 && what < 800 ? what / 100 : 0];
    argument(what >= 0 && what < 800 && which <= most);
    if (what == 0 || what >= 4 && what <= 7) {
      return new int[] {on ? 1 : 0, 0, 0, 0, used(), draft.size(), code.size(), journal.size()}[what];
    }
    if (!on) {
      return -1;
    }
    switch (what / 100) {
      case 0: return new int[] {0, state.time, state.positions, state.visible().size()}[what];
      case 1: return state.streams[which].version;
      case 2: return state.streams[which].ended ? 1 : 0;
      case 3: return state.groups[which] == null ? -1 : out.get(which).size();
      case 4: return state.groups[which] == null ? -1 : seen(state.groups[which].done);
      case 5: return state.groups[which] == null ? -1 : seen(state.groups[which].parked);
      case 6: return state.projections[which] == null ? -1 : state.projections[which].cursor;
      default: return state.projections[which] == null ? -1 : state.projections[which].broken ? 1 : 0;
    }
  }

  private int seen(TreeSet<Integer> positions) {
    int visible = 0;
    for (Event event : state.visible()) {
      visible += positions.contains(event.position) ? 1 : 0;
    }
    return visible;
  }

  int check() {
    return 0;
  }

  private int used() {
    int bytes = 0;
    for (Entry entry : journal) {
      bytes += entry.bytes;
    }
    return bytes;
  }

  private void write(int bytes, Change change) {
    state(used() + bytes <= 100000);
    if (powerAt < 0 || powerAt >= bytes) {
      journal.add(new Entry(bytes, change));
    }
    if (powerAt >= 0) {
      turnOff();
      throw new ArithmeticException();
    }
    change.work(state);
    state.hide();
  }

  private void turnOff() {
    on = false;
    draft = new ArrayList<>();
    code = new ArrayList<>();
    for (int g = 0; g < 8; g++) {
      out.get(g).clear();
      tries.get(g).clear();
    }
  }

  private static void argument(boolean so) {
    if (!so) {
      throw new IllegalArgumentException();
    }
  }

  private static void state(boolean so) {
    if (!so) {
      throw new IllegalStateException();
    }
  }

  private static void found(boolean so) {
    if (!so) {
      throw new NoSuchElementException();
    }
  }
}
