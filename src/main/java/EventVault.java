import java.util.Arrays;
import java.util.NoSuchElementException;

/**
 * A store of events in streams that only grows, as ../shared/DOC.md promises it.
 *
 * What lasts is held as it stands behind the last whole record, and what does not last apart from it. So power
 * that fails needs no replay: a record that was cut is never worked, and the rest is forgotten.
 */
public final class EventVault {
  private static final int PLAIN_STREAMS = 32;
  private static final int STREAMS = 40;
  private static final int ALL_STREAMS = -1;
  private static final int GROUPS = 8;
  private static final int PROJECTIONS = 8;
  private static final int VARIABLES = 4;
  private static final int MOST_EVENTS = 2500;
  private static final int MOST_TICK = 1000;
  private static final int MOST_RETRIES = 9;
  private static final int MOST_READ = 100;
  private static final int MOST_POWER = 70000;
  private static final int ANY_VERSION = -2;
  private static final int NONE = -1;
  private static final int BROKEN_BY_STEP = -2;
  private static final int IDS_PER_POSITION = 4;

  private static final int APPEND_BYTES = 24;
  private static final int EVENT_BYTES = 24;
  private static final int CHANGE_BYTES = 32;
  private static final int PARK_BYTES = 24;
  private static final int TICK_PARK_BYTES = 8;
  private static final int PROJECTION_BYTES = 24;
  private static final int INSTRUCTION_BYTES = 8;
  private static final int STEP_BYTES = 56;
  private static final int BREAK_BYTES = 24;
  private static final int KEPT_BYTES = 64;
  private static final int KEPT_STREAM_BYTES = 24;
  private static final int KEPT_GROUP_BYTES = 32;
  private static final int KEPT_MARK_BYTES = 4;
  private static final int KEPT_PROJECTION_BYTES = 64;
  private static final int KEPT_VARIABLES_BYTES = 40;

  private final Disk disk = new Disk();
  private final Draft drafted = new Draft();
  private final Program composed = new Program();
  private final Events events = new Events();
  private final Machine machine = new Machine();
  private final Group[] groups = new Group[GROUPS];
  private final Projection[] projections = new Projection[PROJECTIONS];

  public EventVault() {
    for (int g = 0; g < GROUPS; g++) {
      groups[g] = new Group();
    }
    for (int p = 0; p < PROJECTIONS; p++) {
      projections[p] = new Projection();
    }
  }

  public int draft(int id, int type, long data) throws IllegalArgumentException, IllegalStateException {
    if (type < 0 || type >= Events.TYPES) {
      throw new IllegalArgumentException("no such type");
    }
    if (drafted.count >= Draft.MOST) {
      throw new IllegalStateException("the draft is full");
    }
    return drafted.put(id, type, data);
  }

  public int append(int stream, int expected)
      throws IllegalArgumentException, IllegalStateException, ArithmeticException {
    if (!isPlainStream(stream) || expected < ANY_VERSION) {
      throw new IllegalArgumentException("no such stream or version");
    }
    requireOn();
    if (drafted.count == 0) {
      throw new IllegalStateException("the draft is empty");
    }
    boolean comes = events.fits(stream, expected) && !events.hasVisibleId(drafted, stream);
    int there = comes ? NONE : events.findDraft(drafted, stream, expected);
    if (there != NONE) {
      drafted.clear();
      return there;
    }
    int size = APPEND_BYTES + EVENT_BYTES * drafted.count;
    boolean open = !events.streams[stream].ended;
    if (!comes || !open || !events.hasRoom(drafted.count) || !disk.hasRoom(size)) {
      drafted.clear();
      throw new IllegalStateException("the draft cannot be appended");
    }
    int first = events.count;
    if (disk.writes(size)) {
      events.addDraft(drafted, stream);
    }
    drafted.clear();
    throwIfPowerFailed();
    return first;
  }

  public int settings(int stream, int most, int age, int from)
      throws IllegalArgumentException, IllegalStateException, ArithmeticException {
    if (!isStream(stream) || most < 0 || age < 0 || from < 0) {
      throw new IllegalArgumentException("no such stream or setting");
    }
    requireNotEnded(stream);
    requireRoom(CHANGE_BYTES);
    if (disk.writes(CHANGE_BYTES)) {
      events.streams[stream].set(most, age, from);
      events.hideOld(stream);
    }
    throwIfPowerFailed();
    return events.streams[stream].firstVisible;
  }

  public int end(int stream) throws IllegalArgumentException, IllegalStateException, ArithmeticException {
    if (!isPlainStream(stream)) {
      throw new IllegalArgumentException("no such stream");
    }
    requireNotEnded(stream);
    requireRoom(CHANGE_BYTES);
    int visible = events.countVisible(stream, 0);
    if (disk.writes(CHANGE_BYTES)) {
      events.streams[stream].ended = true;
      events.hideOld(stream);
    }
    throwIfPowerFailed();
    return visible;
  }

  public int tick(int n) throws IllegalArgumentException, IllegalStateException, ArithmeticException {
    if (n < 1 || n > MOST_TICK) {
      throw new IllegalArgumentException("no such tick");
    }
    requireOn();
    int now = events.now + n;
    int due = 0;
    int parked = 0;
    for (int g = 0; g < GROUPS; g++) {
      due += groups[g].countDue(now);
      parked += groups[g].countParkedBy(now);
    }
    int size = CHANGE_BYTES + TICK_PARK_BYTES * parked;
    requireRoom(size);
    if (disk.writes(size)) {
      passTo(now);
    }
    throwIfPowerFailed();
    return due;
  }

  public int read(int stream, int n, int i, boolean back) throws IllegalArgumentException, IllegalStateException {
    if (!isStreamOrAll(stream) || i < 0 || i > MOST_READ) {
      throw new IllegalArgumentException("no such stream or place");
    }
    requireOn();
    return events.nthVisible(stream, n, i, back);
  }

  public long event(int position, int what)
      throws NoSuchElementException, IllegalArgumentException, IllegalStateException {
    requireOn();
    if (!events.isPosition(position) || !events.isVisible(position)) {
      throw new NoSuchElementException("no visible event there");
    }
    switch (what) {
      case 0: return events.streamOf[position];
      case 1: return events.numberOf[position];
      case 2: return events.idOf[position];
      case 3: return events.typeOf[position];
      case 4: return events.dataOf[position];
      case 5: return events.timeOf[position];
      default: throw new IllegalArgumentException("no such question");
    }
  }

  public int group(int g, int stream, int position, int retries)
      throws IllegalArgumentException, IllegalStateException, ArithmeticException {
    if (!isGroup(g) || !isStreamOrAll(stream)) {
      throw new IllegalArgumentException("no such group or stream");
    }
    if (position < 0 || position > MOST_EVENTS || retries < 0 || retries > MOST_RETRIES) {
      throw new IllegalArgumentException("no such position or retries");
    }
    requireOn();
    requireRoom(CHANGE_BYTES);
    if (disk.writes(CHANGE_BYTES)) {
      groups[g].make(stream, position, retries);
    }
    throwIfPowerFailed();
    return events.countVisible(stream, position);
  }

  public int take(int g) throws NoSuchElementException, IllegalStateException {
    requireOn();
    if (!isGroup(g) || !groups[g].made) {
      throw new NoSuchElementException("no such group");
    }
    return groups[g].give(events);
  }

  public int acknowledge(int g, int position)
      throws NoSuchElementException, IllegalStateException, ArithmeticException {
    requireOut(g, position);
    requireRoom(CHANGE_BYTES);
    if (disk.writes(CHANGE_BYTES)) {
      groups[g].finish(position);
    }
    throwIfPowerFailed();
    return groups[g].outCount;
  }

  public int refuse(int g, int position) throws NoSuchElementException, IllegalStateException, ArithmeticException {
    requireOut(g, position);
    if (!groups[g].isSpent(position)) {
      groups[g].takeBack(position);
      return 0;
    }
    requireRoom(PARK_BYTES);
    if (disk.writes(PARK_BYTES)) {
      groups[g].takeBack(position);
    }
    throwIfPowerFailed();
    return 1;
  }

  public int code(int op, int a) throws IllegalArgumentException, IllegalStateException {
    if (!Program.isInstruction(op, a)) {
      throw new IllegalArgumentException("no such instruction");
    }
    if (composed.count >= Program.MOST) {
      throw new IllegalStateException("the program is full");
    }
    return composed.put(op, a);
  }

  public int projection(int p, int streams, int types, boolean whole)
      throws IllegalArgumentException, IllegalStateException, ArithmeticException {
    if (!isProjection(p) || composed.count == 0 || !composed.jumpsInside()) {
      throw new IllegalArgumentException("no such projection or program");
    }
    requireOn();
    int length = composed.count;
    int size = PROJECTION_BYTES + INSTRUCTION_BYTES * length;
    requireRoom(size);
    if (disk.writes(size)) {
      projections[p].make(composed, streams, types, whole);
    }
    composed.clear();
    throwIfPowerFailed();
    return length;
  }

  public int step(int p) throws NoSuchElementException, IllegalStateException, ArithmeticException {
    requireOn();
    if (!isProjection(p) || !projections[p].made) {
      throw new NoSuchElementException("no such projection");
    }
    Projection projection = projections[p];
    if (projection.broken) {
      throw new IllegalStateException("the projection is broken");
    }
    int position = projection.findNext(events);
    if (position == NONE) {
      return NONE;
    }
    machine.run(projection, events, position);
    return machine.broken ? breakAt(projection, position) : keepWork(p, position);
  }

  public long variable(int p, int stream, int v)
      throws NoSuchElementException, IllegalArgumentException, IllegalStateException {
    requireOn();
    if (!isProjection(p) || !projections[p].made) {
      throw new NoSuchElementException("no such projection");
    }
    if (!isPlainStream(stream) || v < 0 || v >= VARIABLES) {
      throw new IllegalArgumentException("no such variable");
    }
    return projections[p].variables[stream * VARIABLES + v];
  }

  public int scavenge() throws IllegalStateException, ArithmeticException {
    requireOn();
    int size = keptBytes();
    if (size > Disk.BYTES) {
      throw new IllegalStateException("the disk would be full");
    }
    disk.rewrites(size);
    throwIfPowerFailed();
    return disk.bytes;
  }

  public void power(int k) throws IllegalArgumentException {
    if (k < NONE || k > MOST_POWER) {
      throw new IllegalArgumentException("no such byte");
    }
    disk.failsBehind = k;
  }

  public int reopen() {
    forgetWhatDoesNotLast();
    disk.turnOn();
    return events.count;
  }

  public int told(int what) throws IllegalArgumentException {
    if (!isQuestion(what)) {
      throw new IllegalArgumentException("no such question");
    }
    switch (what) {
      case 0: return disk.on ? 1 : 0;
      case 4: return disk.bytes;
      case 5: return drafted.count;
      case 6: return composed.count;
      case 7: return disk.records;
      default: return disk.on ? toldOfState(what) : NONE;
    }
  }

  /** Only what whole records say is held, never their bytes: there is nothing that could differ from it. */
  public int check() {
    return 0;
  }

  private static boolean isPlainStream(int stream) {
    return stream >= 0 && stream < PLAIN_STREAMS;
  }

  private static boolean isStream(int stream) {
    return stream >= 0 && stream < STREAMS;
  }

  private static boolean isStreamOrAll(int stream) {
    return stream == ALL_STREAMS || isStream(stream);
  }

  private static boolean isGroup(int g) {
    return g >= 0 && g < GROUPS;
  }

  private static boolean isProjection(int p) {
    return p >= 0 && p < PROJECTIONS;
  }

  private static boolean isQuestion(int what) {
    int which = what % 100;
    if (which < 0) {
      return false;
    }
    switch (what / 100) {
      case 0: return which <= 7;
      case 1:
      case 2: return isStream(which);
      case 3:
      case 4:
      case 5: return isGroup(which);
      case 6:
      case 7: return isProjection(which);
      default: return false;
    }
  }

  private int toldOfState(int what) {
    int which = what % 100;
    switch (what / 100) {
      case 0: return toldOfAll(what);
      case 1: return events.streams[which].version;
      case 2: return events.streams[which].ended ? 1 : 0;
      case 3:
      case 4:
      case 5: return groups[which].made ? toldOfGroup(groups[which], what / 100) : NONE;
      case 6: return projections[which].made ? projections[which].cursor : NONE;
      default: return projections[which].made ? (projections[which].broken ? 1 : 0) : NONE;
    }
  }

  private int toldOfAll(int what) {
    switch (what) {
      case 1: return events.now;
      case 2: return events.count;
      default: return events.countVisible(ALL_STREAMS, 0);
    }
  }

  private int toldOfGroup(Group asked, int hundreds) {
    switch (hundreds) {
      case 3: return asked.outCount;
      case 4: return asked.countMarked(events, Group.DONE);
      default: return asked.countMarked(events, Group.PARKED);
    }
  }

  private void requireOn() throws IllegalStateException {
    if (!disk.on) {
      throw new IllegalStateException("it is off");
    }
  }

  private void requireRoom(int size) throws IllegalStateException {
    if (!disk.hasRoom(size)) {
      throw new IllegalStateException("the disk is full");
    }
  }

  private void requireNotEnded(int stream) throws IllegalStateException {
    requireOn();
    if (events.streams[stream].ended) {
      throw new IllegalStateException("the stream is ended");
    }
  }

  private void requireOut(int g, int position) throws NoSuchElementException, IllegalStateException {
    requireOn();
    if (!isGroup(g) || !events.isPosition(position) || !groups[g].isOut(position)) {
      throw new NoSuchElementException("it is not out for such a group");
    }
  }

  private void throwIfPowerFailed() throws ArithmeticException {
    if (!disk.on) {
      forgetWhatDoesNotLast();
      throw new ArithmeticException("power failed");
    }
  }

  private void forgetWhatDoesNotLast() {
    drafted.clear();
    composed.clear();
    for (int g = 0; g < GROUPS; g++) {
      groups[g].forgetGiven();
    }
  }

  private void passTo(int now) {
    for (int g = 0; g < GROUPS; g++) {
      groups[g].takeBackDue(now);
    }
    events.now = now;
    for (int stream = 0; stream < STREAMS; stream++) {
      events.hideOld(stream);
    }
  }

  private int breakAt(Projection projection, int position) throws IllegalStateException, ArithmeticException {
    requireRoom(BREAK_BYTES);
    if (disk.writes(BREAK_BYTES)) {
      projection.broken = true;
      projection.cursor = position;
    }
    throwIfPowerFailed();
    return BROKEN_BY_STEP;
  }

  private int keepWork(int p, int position) throws IllegalStateException, ArithmeticException {
    if (!events.hasRoom(machine.emitted)) {
      throw new IllegalStateException("there would be too many events");
    }
    int size = STEP_BYTES + EVENT_BYTES * machine.emitted;
    requireRoom(size);
    if (disk.writes(size)) {
      projections[p].keep(machine, events.streamOf[position]);
      projections[p].cursor = position + 1;
      events.addEmitted(machine, PLAIN_STREAMS + p, IDS_PER_POSITION * position);
    }
    throwIfPowerFailed();
    return position;
  }

  private int keptBytes() {
    int size = KEPT_BYTES + EVENT_BYTES * events.countVisible(ALL_STREAMS, 0);
    for (int stream = 0; stream < STREAMS; stream++) {
      size += events.streams[stream].isUsed() ? KEPT_STREAM_BYTES : 0;
    }
    for (int g = 0; g < GROUPS; g++) {
      size += groups[g].made ? keptGroupBytes(groups[g]) : 0;
    }
    for (int p = 0; p < PROJECTIONS; p++) {
      size += projections[p].made ? keptProjectionBytes(projections[p]) : 0;
    }
    return size;
  }

  private int keptGroupBytes(Group kept) {
    int marks = kept.countMarked(events, Group.DONE) + kept.countMarked(events, Group.PARKED);
    return KEPT_GROUP_BYTES + KEPT_MARK_BYTES * marks;
  }

  private static int keptProjectionBytes(Projection kept) {
    return KEPT_PROJECTION_BYTES + INSTRUCTION_BYTES * kept.program.count
        + KEPT_VARIABLES_BYTES * kept.countStreamsWithVariables();
  }

  /** How much the disk holds, and when power fails. */
  private static final class Disk {
    private static final int BYTES = 100000;

    private boolean on = true;
    private int bytes;
    private int records;
    private int failsBehind = NONE;

    boolean hasRoom(int size) {
      return size <= BYTES - bytes;
    }

    /** Tells if the record lasts; it may do so though power fails, behind its last byte. */
    boolean writes(int size) {
      boolean lasts = outlastsPower(size);
      if (lasts) {
        bytes += size;
        records++;
      }
      return lasts;
    }

    void rewrites(int size) {
      if (outlastsPower(size)) {
        bytes = size;
        records = 1;
      }
    }

    void turnOn() {
      on = true;
      failsBehind = NONE;
    }

    private boolean outlastsPower(int size) {
      on = failsBehind == NONE;
      return on || failsBehind >= size;
    }
  }

  /** The rows of events that are to be appended. */
  private static final class Draft {
    private static final int MOST = 8;

    private final int[] ids = new int[MOST];
    private final int[] types = new int[MOST];
    private final long[] data = new long[MOST];
    private int count;

    int put(int id, int type, long datum) {
      ids[count] = id;
      types[count] = type;
      data[count] = datum;
      count++;
      return count;
    }

    void clear() {
      count = 0;
    }

    boolean holds(int id) {
      for (int i = 0; i < count; i++) {
        if (ids[i] == id) {
          return true;
        }
      }
      return false;
    }
  }

  /**
   * A stream's version and settings. Numbers and times only grow, so each rule hides a beginning of the stream:
   * the first visible number, which never goes back, tells all that is hidden for ever.
   */
  private static final class Stream {
    private int version = -1;
    private int most;
    private int age;
    private int from;
    private boolean ended;
    private int firstVisible;

    void set(int newMost, int newAge, int newFrom) {
      most = newMost;
      age = newAge;
      from = newFrom;
    }

    void hideByNumber() {
      hideBelow(from);
      if (most != 0) {
        hideBelow(version - most + 1);
      }
      if (ended) {
        hideBelow(version + 1);
      }
    }

    /** Numbers that are still to come are not hidden yet: the rule may be gone when they come. */
    void hideBelow(int number) {
      firstVisible = Math.max(firstVisible, Math.min(number, version + 1));
    }

    boolean isUsed() {
      return version >= 0 || most != 0 || age != 0 || from != 0 || ended;
    }
  }

  /** All events by their positions, hidden ones too, with their streams and the time. */
  private static final class Events {
    private static final int TYPES = 16;

    private final int[] streamOf = new int[MOST_EVENTS];
    private final int[] numberOf = new int[MOST_EVENTS];
    private final int[] idOf = new int[MOST_EVENTS];
    private final int[] typeOf = new int[MOST_EVENTS];
    private final long[] dataOf = new long[MOST_EVENTS];
    private final int[] timeOf = new int[MOST_EVENTS];
    private final Stream[] streams = new Stream[STREAMS];
    private int count;
    private int now;

    Events() {
      for (int stream = 0; stream < STREAMS; stream++) {
        streams[stream] = new Stream();
      }
    }

    boolean isPosition(int position) {
      return position >= 0 && position < count;
    }

    boolean hasRoom(int more) {
      return more <= MOST_EVENTS - count;
    }

    boolean isVisible(int position) {
      return numberOf[position] >= streams[streamOf[position]].firstVisible;
    }

    boolean isVisibleIn(int stream, int position) {
      return (stream == ALL_STREAMS || stream == streamOf[position]) && isVisible(position);
    }

    int countVisible(int stream, int from) {
      int visible = 0;
      for (int position = from; position < count; position++) {
        visible += isVisibleIn(stream, position) ? 1 : 0;
      }
      return visible;
    }

    int nthVisible(int stream, int n, int i, boolean back) {
      int left = i;
      for (int k = 0; k < count; k++) {
        int position = back ? count - 1 - k : k;
        int place = stream == ALL_STREAMS ? position : numberOf[position];
        if ((back ? place <= n : place >= n) && isVisibleIn(stream, position)) {
          if (left == 0) {
            return position;
          }
          left--;
        }
      }
      return NONE;
    }

    boolean fits(int stream, int expected) {
      return expected == ANY_VERSION || expected == streams[stream].version;
    }

    boolean hasVisibleId(Draft draft, int stream) {
      for (int position = 0; position < count; position++) {
        if (isVisibleIn(stream, position) && draft.holds(idOf[position])) {
          return true;
        }
      }
      return false;
    }

    /** The position from which on a draft's ids already stand in a stream, as it is expected; NONE without. */
    int findDraft(Draft draft, int stream, int expected) {
      for (int position = 0; position < count; position++) {
        boolean due = expected == ANY_VERSION || numberOf[position] - 1 == expected;
        if (due && isVisibleIn(stream, position) && standsFrom(draft, position)) {
          return position;
        }
      }
      return NONE;
    }

    /** What comes behind a visible event in its stream is visible too, so the ids alone are to be looked at. */
    private boolean standsFrom(Draft draft, int first) {
      int same = 0;
      for (int position = first; position < count && same < draft.count; position++) {
        if (streamOf[position] == streamOf[first]) {
          if (idOf[position] != draft.ids[same]) {
            return false;
          }
          same++;
        }
      }
      return same == draft.count;
    }

    void addDraft(Draft draft, int stream) {
      for (int i = 0; i < draft.count; i++) {
        add(stream, draft.ids[i], draft.types[i], draft.data[i]);
      }
      hideOld(stream);
    }

    void addEmitted(Machine machine, int stream, int firstId) {
      for (int i = 0; i < machine.emitted; i++) {
        add(stream, firstId + i, machine.emittedTypes[i], machine.emittedData[i]);
      }
      hideOld(stream);
    }

    private void add(int stream, int id, int type, long data) {
      streams[stream].version++;
      streamOf[count] = stream;
      numberOf[count] = streams[stream].version;
      idOf[count] = id;
      typeOf[count] = type;
      dataOf[count] = data;
      timeOf[count] = now;
      count++;
    }

    void hideOld(int stream) {
      Stream kept = streams[stream];
      kept.hideByNumber();
      if (kept.age == 0) {
        return;
      }
      for (int position = 0; position < count; position++) {
        if (streamOf[position] == stream && now - timeOf[position] >= kept.age) {
          kept.hideBelow(numberOf[position] + 1);
        }
      }
    }
  }

  /** A group of consumers: what it wants, how far each event is for it, and the few that are out. */
  private static final class Group {
    private static final int OPEN = 0;
    private static final int DONE = 1;
    private static final int PARKED = 2;
    private static final int MOST_OUT = 16;
    private static final int OUT_TIME = 8;

    private final int[] marks = new int[MOST_EVENTS];
    private final int[] tries = new int[MOST_EVENTS];
    private final int[] outPositions = new int[MOST_OUT];
    private final int[] outTills = new int[MOST_OUT];
    private int outCount;
    private boolean made;
    private int stream;
    private int from;
    private int retries;

    void make(int newStream, int newFrom, int newRetries) {
      made = true;
      stream = newStream;
      from = newFrom;
      retries = newRetries;
      Arrays.fill(marks, OPEN);
      forgetGiven();
    }

    void forgetGiven() {
      outCount = 0;
      Arrays.fill(tries, 0);
    }

    int give(Events events) {
      if (outCount >= MOST_OUT) {
        return NONE;
      }
      for (int position = from; position < events.count; position++) {
        if (marks[position] == OPEN && !isOut(position) && events.isVisibleIn(stream, position)) {
          outPositions[outCount] = position;
          outTills[outCount] = events.now + OUT_TIME;
          outCount++;
          tries[position]++;
          return position;
        }
      }
      return NONE;
    }

    boolean isOut(int position) {
      return findOut(position) != NONE;
    }

    boolean isSpent(int position) {
      return tries[position] > retries;
    }

    void finish(int position) {
      dropOut(findOut(position));
      marks[position] = DONE;
    }

    void takeBack(int position) {
      dropOut(findOut(position));
      if (isSpent(position)) {
        marks[position] = PARKED;
      }
    }

    /** From the last one down, as each that goes is replaced by the last one. */
    void takeBackDue(int now) {
      for (int i = outCount - 1; i >= 0; i--) {
        if (outTills[i] <= now) {
          takeBack(outPositions[i]);
        }
      }
    }

    int countDue(int now) {
      int due = 0;
      for (int i = 0; i < outCount; i++) {
        due += outTills[i] <= now ? 1 : 0;
      }
      return due;
    }

    int countParkedBy(int now) {
      int parked = 0;
      for (int i = 0; i < outCount; i++) {
        parked += outTills[i] <= now && isSpent(outPositions[i]) ? 1 : 0;
      }
      return parked;
    }

    int countMarked(Events events, int mark) {
      int marked = 0;
      for (int position = 0; position < events.count; position++) {
        marked += marks[position] == mark && events.isVisible(position) ? 1 : 0;
      }
      return marked;
    }

    private int findOut(int position) {
      for (int i = 0; i < outCount; i++) {
        if (outPositions[i] == position) {
          return i;
        }
      }
      return NONE;
    }

    private void dropOut(int i) {
      if (i == NONE) {
        return;
      }
      outCount--;
      outPositions[i] = outPositions[outCount];
      outTills[i] = outTills[outCount];
    }
  }

  /** A row of instructions. */
  private static final class Program {
    private static final int MOST = 64;
    private static final int PUSH = 0;
    private static final int DATA = 1;
    private static final int TYPE = 2;
    private static final int STREAM = 3;
    private static final int NUMBER = 4;
    private static final int GET = 5;
    private static final int SET = 6;
    private static final int ADD = 7;
    private static final int SUBTRACT = 8;
    private static final int MULTIPLY = 9;
    private static final int DIVIDE = 10;
    private static final int LESS = 11;
    private static final int SAME = 12;
    private static final int DOUBLE = 13;
    private static final int DROP = 14;
    private static final int CHANGE = 15;
    private static final int JUMP = 16;
    private static final int JUMP_IF_ZERO = 17;
    private static final int EMIT = 18;
    private static final int END = 19;

    private final int[] ops = new int[MOST];
    private final int[] args = new int[MOST];
    private int count;

    static boolean isInstruction(int op, int a) {
      if (op < PUSH || op > END) {
        return false;
      }
      if (op == GET || op == SET) {
        return a >= 0 && a < VARIABLES;
      }
      return op != EMIT || a >= 0 && a < Events.TYPES;
    }

    int put(int op, int a) {
      ops[count] = op;
      args[count] = a;
      count++;
      return count;
    }

    void clear() {
      count = 0;
    }

    boolean jumpsInside() {
      for (int i = 0; i < count; i++) {
        boolean jumps = ops[i] == JUMP || ops[i] == JUMP_IF_ZERO;
        if (jumps && (args[i] < 0 || args[i] > count)) {
          return false;
        }
      }
      return true;
    }

    void copy(Program other) {
      System.arraycopy(other.ops, 0, ops, 0, other.count);
      System.arraycopy(other.args, 0, args, 0, other.count);
      count = other.count;
    }
  }

  /** A program that works one event after another, with the variables that it keeps. */
  private static final class Projection {
    private final Program program = new Program();
    private final long[] variables = new long[PLAIN_STREAMS * VARIABLES];
    private boolean made;
    private int streams;
    private int types;
    private boolean whole;
    private int cursor;
    private boolean broken;

    void make(Program composed, int newStreams, int newTypes, boolean newWhole) {
      program.copy(composed);
      Arrays.fill(variables, 0L);
      made = true;
      streams = newStreams;
      types = newTypes;
      whole = newWhole;
      cursor = 0;
      broken = false;
    }

    int findNext(Events events) {
      for (int position = cursor; position < events.count; position++) {
        if (wants(events.streamOf[position], events.typeOf[position]) && events.isVisible(position)) {
          return position;
        }
      }
      return NONE;
    }

    /** A shift takes only the lower five bits of a stream, so what a projection emitted is kept out first. */
    private boolean wants(int stream, int type) {
      return stream < PLAIN_STREAMS && (streams >>> stream & 1) == 1 && (types >>> type & 1) == 1;
    }

    int firstVariable(int stream) {
      return whole ? 0 : stream * VARIABLES;
    }

    void keep(Machine machine, int stream) {
      System.arraycopy(machine.variables, 0, variables, firstVariable(stream), VARIABLES);
    }

    int countStreamsWithVariables() {
      int used = 0;
      for (int first = 0; first < variables.length; first += VARIABLES) {
        long bits = 0;
        for (int v = 0; v < VARIABLES; v++) {
          bits |= variables[first + v];
        }
        used += bits != 0 ? 1 : 0;
      }
      return used;
    }
  }

  /** Runs a program on one event, on rows of its own: a program that breaks must leave nothing behind. */
  private static final class Machine {
    private static final int STACK = 16;
    private static final int MOST_INSTRUCTIONS = 200;
    private static final int MOST_EMITTED = 4;

    private final long[] stack = new long[STACK];
    private final long[] variables = new long[VARIABLES];
    private final int[] emittedTypes = new int[MOST_EMITTED];
    private final long[] emittedData = new long[MOST_EMITTED];
    private int emitted;
    private int height;
    private int next;
    private int behindLast;
    private boolean broken;

    void run(Projection projection, Events events, int position) {
      Program program = projection.program;
      int firstVariable = projection.firstVariable(events.streamOf[position]);
      System.arraycopy(projection.variables, firstVariable, variables, 0, VARIABLES);
      emitted = 0;
      height = 0;
      next = 0;
      behindLast = program.count;
      broken = false;
      for (int done = 0; done < MOST_INSTRUCTIONS && isRunning(); done++) {
        int op = program.ops[next];
        int a = program.args[next];
        next++;
        work(op, a, events, position);
      }
      if (isRunning()) {
        broken = true;
      }
    }

    private boolean isRunning() {
      return !broken && next < behindLast;
    }

    private void work(int op, int a, Events events, int position) {
      if (op <= Program.GET) {
        push(pushed(op, a, events, position));
      } else if (op >= Program.ADD && op <= Program.SAME) {
        long top = pop();
        push(joined(op, pop(), top));
      } else {
        workRest(op, a);
      }
    }

    private long pushed(int op, int a, Events events, int position) {
      switch (op) {
        case Program.PUSH: return a;
        case Program.DATA: return events.dataOf[position];
        case Program.TYPE: return events.typeOf[position];
        case Program.STREAM: return events.streamOf[position];
        case Program.NUMBER: return events.numberOf[position];
        default: return variables[a];
      }
    }

    private long joined(int op, long lower, long top) {
      switch (op) {
        case Program.ADD: return lower + top;
        case Program.SUBTRACT: return lower - top;
        case Program.MULTIPLY: return lower * top;
        case Program.DIVIDE: return divided(lower, top);
        case Program.LESS: return lower < top ? 1 : 0;
        default: return lower == top ? 1 : 0;
      }
    }

    private long divided(long lower, long top) {
      if (top == 0) {
        broken = true;
        return 0;
      }
      return lower / top;
    }

    private void workRest(int op, int a) {
      switch (op) {
        case Program.SET: variables[a] = pop(); break;
        case Program.DOUBLE: pushTwice(pop()); break;
        case Program.DROP: pop(); break;
        case Program.CHANGE: pushChanged(pop(), pop()); break;
        case Program.JUMP: next = a; break;
        case Program.JUMP_IF_ZERO: next = pop() == 0 ? a : next; break;
        case Program.EMIT: emit(a, pop()); break;
        default: next = behindLast; break;
      }
    }

    private void pushTwice(long value) {
      push(value);
      push(value);
    }

    private void pushChanged(long top, long lower) {
      push(top);
      push(lower);
    }

    private void emit(int type, long data) {
      if (emitted >= MOST_EMITTED) {
        broken = true;
        return;
      }
      emittedTypes[emitted] = type;
      emittedData[emitted] = data;
      emitted++;
    }

    private void push(long value) {
      if (height >= STACK) {
        broken = true;
        return;
      }
      stack[height] = value;
      height++;
    }

    private long pop() {
      if (height <= 0) {
        broken = true;
        return 0;
      }
      height--;
      return stack[height];
    }
  }
}
