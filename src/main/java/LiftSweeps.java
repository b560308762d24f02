/**
 * A dispatcher of lifts: groups call from floor to floor, and each is given to the car that costs
 * least; cars sweep up and down and never turn with riders.
 *
 * <p>Every row that any call needs is made by the constructor; the calls themselves make nothing.
 */
public final class LiftSweeps {
  public static final int NONE = -1, BAD = -2, STATE = -3, FULL = -4;

  private static final int MISSING = -11, OUTSIDE = -12, UNLIKE = -13, NEGATIVE = -14;
  private static final int SHEETS = 4, MOST_ITEMS = 40, BYTES = 0, INTS = 1;
  private static final int MOST_TOLD = 30, MOST_TICKS = 99, MOST_DRAWN = 6, MOST_SEEDS = 6;
  private static final int KINDS = 6, FIGURES = 10, WAYS = 3, MOST_GAP = 20, MOST_LOADED = 6;
  private static final int SEED_CALLS = 3, MOST_LIMIT = 999, FAULT_BASE = -100;

  private final Hall hall;
  // What is thought is played here, so that the hall itself stays as it is.
  private final Hall thought;
  private final Hall kept;
  private final Tape tape;
  private final Sheet[] sheets;
  private boolean hasImage;

  public LiftSweeps() {
    // Calls that are drawn in thought may need a thought of their own for their cost.
    thought = new Hall(new Hall(null));
    hall = new Hall(thought);
    kept = new Hall(null);
    tape = new Tape();
    sheets = new Sheet[SHEETS];
    for (int i = 0; i < SHEETS; i++) {
      sheets[i] = new Sheet();
    }
    hasImage = false;
  }

  // ---- floors, cars

  public int build(int f, int k) {
    if (f < 2 || f > Hall.MOST_FLOORS || k < 1 || k > Hall.MOST_CARS) {
      return BAD;
    }
    int was = hall.floors;
    hall.reset(f, k);
    return was;
  }

  public int car(int car, int kind, int figure, int room) {
    if (!hall.isCar(car) || kind < 0 || kind >= KINDS || figure < 0 || figure >= FIGURES) {
      return BAD;
    }
    if (room < 1 || room > Hall.MOST_SIZE) {
      return BAD;
    }
    if (hall.groups.ownOf(car) > 0) {
      return STATE;
    }
    Car it = hall.cars[car];
    int was = 10 * it.kind + it.figure;
    it.kind = kind;
    it.figure = figure;
    it.room = room;
    return was;
  }

  public int told(int car, int what) {
    if (!hall.isCar(car)) {
      return BAD;
    }
    Car it = hall.cars[car];
    switch (what) {
      case 8: return hall.groups.ridersOf(car);
      case 9: return hall.stopsOf(car);
      case 10: return it.paceWith(hall.groups.ridersOf(car));
      case 12: return hall.groups.ownOf(car);
      default: return it.figureOf(what);
    }
  }

  public int taken(int car, int k) {
    if (!hall.isCar(car) || k < 0 || k >= KINDS) {
      return BAD;
    }
    Car it = hall.cars[car];
    return it.isOneOf(k) ? it.paceWith(0) : UNLIKE;
  }

  // ---- calls

  public int call(int from, int to, int size) {
    return hall.takeCall(from, to, size);
  }

  public int group(int group, int what) {
    if (!hall.isGroup(group)) {
      return BAD;
    }
    Groups all = hall.groups;
    switch (what) {
      case 0: return all.from[group];
      case 1: return all.to[group];
      case 2: return all.size[group];
      case 3: return all.car[group];
      case 4: return all.how[group];
      case 5: return all.called[group];
      case 6: return all.waitedBy(group, hall.tick);
      case 7: return all.given[group];
      default: return BAD;
    }
  }

  public int way(int w) {
    if (w < 0 || w >= WAYS) {
      return BAD;
    }
    int was = hall.way;
    hall.way = w;
    return was;
  }

  public int gap(int v) {
    if (v < 1 || v > MOST_GAP) {
      return BAD;
    }
    int was = hall.gap;
    hall.gap = v;
    return was;
  }

  public int cost(int group, int car) {
    if (!hall.isGroup(group) || !hall.isCar(car)) {
      return BAD;
    }
    return hall.waits(group) ? hall.costFor(group, car) : STATE;
  }

  public int give(int group, int car) {
    if (!hall.isGroup(group) || !hall.isCar(car)) {
      return BAD;
    }
    Groups all = hall.groups;
    if (!hall.waits(group) || all.car[group] == car || all.given[group] >= Hall.MOST_GIVEN) {
      return STATE;
    }
    if (!hall.hasRoom(group, car)) {
      return STATE;
    }
    hall.giveAnew(group, car);
    return all.given[group];
  }

  public int regive() {
    return hall.regiveAll();
  }

  // ---- ticks, parking

  public int tick() {
    return hall.passTick();
  }

  public int ticks(int n) {
    if (n < 0 || n > MOST_TICKS) {
      return BAD;
    }
    int there = 0;
    for (int i = 0; i < n; i++) {
      there += hall.passTick();
    }
    return there;
  }

  public int park() {
    return hall.parkIdle();
  }

  public int demand(int floor, int part) {
    if (!hall.isFloor(floor) || !isPart(part)) {
      return BAD;
    }
    if (hall.groups.count == 0) {
      return STATE;
    }
    return inLowestTerms(hall.demands[floor], hall.groups.count, part);
  }

  public int sweep(int car, int i) {
    if (!hall.isCar(car)) {
      return BAD;
    }
    if (i == -1) {
      return Integer.bitCount(hall.stopsOf(car));
    }
    int floor = hall.stopBySweep(car, i);
    return floor == NONE ? OUTSIDE : floor;
  }

  public int near(int car, int other, int n) {
    if (!hall.isCar(car) || !hall.isCar(other) || n < 0 || n >= Hall.MOST_FLOORS) {
      return BAD;
    }
    int stops = hall.stopsOf(car);
    int others = hall.stopsOf(other);
    int twos = 0;
    for (int a = 0; a < hall.floors; a++) {
      for (int b = 0; b < hall.floors; b++) {
        if (hasBit(stops, a) && hasBit(others, b) && Math.abs(a - b) <= n) {
          twos++;
        }
      }
    }
    return twos;
  }

  public int oldest(int what) {
    Groups all = hall.groups;
    int old = all.oldestWaiting();
    switch (what) {
      case 0: return old;
      case 1: return old == NONE ? NONE : all.waitedBy(old, hall.tick);
      case 2: return all.longest();
      case 3: return all.longestWaited();
      case 4: return hall.passed;
      default: return BAD;
    }
  }

  public int mean(int part) {
    if (!isPart(part)) {
      return BAD;
    }
    Groups all = hall.groups;
    int boarded = 0;
    int waited = 0;
    for (int g = 0; g < all.count; g++) {
      if (all.how[g] != Groups.WAITS) {
        boarded++;
        waited += all.waited[g];
      }
    }
    return boarded == 0 ? STATE : inLowestTerms(waited, boarded, part);
  }

  // ---- in thought

  public int done(int what) {
    if (what < 0 || what > 2) {
      return BAD;
    }
    // With no calls drawn, the seed does not matter.
    return tellEnd(thinkDrawn(0, 0), what);
  }

  public int would(int group, int car, int what) {
    if (!hall.isGroup(group) || !hall.isCar(car) || what < 0 || what > 1) {
      return BAD;
    }
    if (!hall.waits(group) || !hall.hasRoom(group, car)) {
      return STATE;
    }
    int how = what == 0 ? Groups.RIDES : Groups.THERE;
    return hall.ticksTill(group, car, how, Hall.MOST_THOUGHT);
  }

  public int soonest(int group) {
    if (!hall.isGroup(group)) {
      return BAD;
    }
    return hall.waits(group) ? hall.soonestCar(group) : STATE;
  }

  public int drawn(int seed, int n, int what) {
    if (n < 0 || n > MOST_DRAWN || what < 0 || what > 2) {
      return BAD;
    }
    return tellEnd(thinkDrawn(seed, n), what);
  }

  public int chance(int seed, int m, int w, int part) {
    if (m < 1 || m > MOST_SEEDS || w < 0 || w > MOST_LIMIT || !isPart(part)) {
      return BAD;
    }
    int good = 0;
    for (int i = 0; i < m; i++) {
      thinkDrawn(seed + i, SEED_CALLS);
      int waited = thought.groups.longestWaited();
      if (waited != NONE && waited <= w) {
        good++;
      }
    }
    return inLowestTerms(good, m, part);
  }

  // ---- texts, events

  public int feed(int n, int a, int b, int c, int d, int e) {
    if (n < 1 || n > 5 || !isByte(a) || !isByte(b) || !isByte(c) || !isByte(d) || !isByte(e)) {
      return BAD;
    }
    if (tape.size + n > Tape.MOST_BYTES) {
      return FULL;
    }
    for (int i = 0; i < n; i++) {
      tape.add(i == 0 ? a : i == 1 ? b : i == 2 ? c : i == 3 ? d : e);
    }
    return tape.size;
  }

  public int text() {
    int fault = tape.read();
    tape.size = 0;
    if (fault != NONE) {
      return FAULT_BASE - fault;
    }
    int made = 0;
    for (int i = 0; i < tape.clauses; i++) {
      if (perform(i) >= 0) {
        made++;
      }
    }
    return made;
  }

  public int event(int i, int what) {
    if (what < 0 || what > 3) {
      return BAD;
    }
    return hall.journal.has(i) ? hall.journal.tell(i, what) : OUTSIDE;
  }

  // ---- what was told

  public int tells(int sheet, int car, int what) {
    if (!isSheet(sheet) || !hall.isCar(car) || what < 0 || what > 2) {
      return BAD;
    }
    Sheet row = sheets[sheet];
    if (row.sort == NONE) {
      return MISSING;
    }
    if (row.size > MOST_TOLD) {
      return BAD;
    }
    Car it = hall.cars[car];
    if (what == 0) {
      return firstOtherwise(row, car, it.kind, it.figure);
    }
    return what == 1 ? kindsSo(row, car) : figuresSo(row, car);
  }

  public int film(int sheet, int car, int n) {
    if (!isSheet(sheet) || !hall.isCar(car) || n < 0 || n > MOST_TOLD) {
      return BAD;
    }
    Sheet row = sheets[sheet];
    row.become(BYTES, n);
    thought.become(hall);
    for (int i = 0; i < n; i++) {
      thought.move(car);
      row.set(i, thought.cars[car].floor);
    }
    return n;
  }

  public int load(int sheet, int sort, int from, int n) {
    if (!isSheet(sheet) || sort < BYTES || sort > INTS || n < 0 || n > MOST_LOADED) {
      return BAD;
    }
    Sheet row = sheets[sheet];
    if (row.sort == NONE) {
      return MISSING;
    }
    if (row.sort != sort) {
      return UNLIKE;
    }
    int called = 0;
    int at = from;
    for (int i = 0; i < n; i++) {
      // Looked at group by group, because those ahead of a place outside call all the same.
      if (!row.holds(at, 3)) {
        return OUTSIDE;
      }
      if (hall.takeCall(row.items[at], row.items[at + 1], row.items[at + 2]) >= 0) {
        called++;
      }
      at += 3;
    }
    return called;
  }

  public int image() {
    kept.become(hall);
    hasImage = true;
    return hall.groups.count;
  }

  public int back() {
    if (!hasImage) {
      return STATE;
    }
    hall.become(kept);
    return hall.groups.count;
  }

  public int count(int what) {
    if (what >= 20 && what < 20 + Hall.MOST_FLOORS) {
      return hall.isFloor(what - 20) ? hall.demands[what - 20] : NONE;
    }
    switch (what) {
      case 0: return hall.floors;
      case 1: return hall.carCount;
      case 2: return hall.groups.count;
      case 3: return hall.groups.howMany(Groups.WAITS);
      case 4: return hall.groups.howMany(Groups.RIDES);
      case 5: return hall.groups.howMany(Groups.THERE);
      case 6: return hall.journal.held;
      case 7: return tape.size;
      case 8: return hall.tick;
      case 9: return hall.way;
      case 10: return hall.gap;
      default: return BAD;
    }
  }

  // ---- the host

  public int sheet(int sheet, int sort, int n) {
    if (!isSheet(sheet) || sort < NONE || sort > INTS) {
      return BAD;
    }
    if (sort == NONE) {
      sheets[sheet].become(NONE, 0);
      return 1;
    }
    if (n > MOST_ITEMS) {
      return BAD;
    }
    if (n < 0) {
      return NEGATIVE;
    }
    sheets[sheet].become(sort, n);
    return 1;
  }

  public int put(int sheet, int i, int v) {
    if (!isSheet(sheet)) {
      return BAD;
    }
    Sheet row = sheets[sheet];
    if (row.sort == NONE) {
      return MISSING;
    }
    if (!row.holds(i, 1)) {
      return OUTSIDE;
    }
    row.set(i, v);
    return 1;
  }

  public int copy(int sheet, int i, int other, int j, int n) {
    if (!isSheet(sheet) || !isSheet(other)) {
      return BAD;
    }
    Sheet source = sheets[sheet];
    Sheet target = sheets[other];
    if (source.sort == NONE || target.sort == NONE) {
      return MISSING;
    }
    if (source.sort != target.sort) {
      return UNLIKE;
    }
    if (!source.holds(i, n) || !target.holds(j, n)) {
      return OUTSIDE;
    }
    System.arraycopy(source.items, i, target.items, j, n);
    return n;
  }

  // ---- helpers of the calls

  private static boolean isSheet(int sheet) {
    return sheet >= 0 && sheet < SHEETS;
  }

  private static boolean isByte(int v) {
    return v >= 0 && v <= 255;
  }

  private static boolean hasBit(int bits, int i) {
    return ((bits >> i) & 1) != 0;
  }

  private static boolean isPart(int part) {
    return part == 0 || part == 1;
  }

  /** A part of above / below; below is positive, and small enough to try every divisor. */
  private static int inLowestTerms(int above, int below, int part) {
    int whole = part == 0 ? above : below;
    for (int d = below; d > 1; d--) {
      if (above % d == 0 && below % d == 0) {
        return whole / d;
      }
    }
    return whole;
  }

  /** Draws calls in thought and lets all come to an end there: the ticks it takes, or NONE. */
  private int thinkDrawn(int seed, int n) {
    thought.become(hall);
    int f = thought.floors;
    if (f < 2) {
      return NONE;
    }
    int z = seed;
    for (int i = 0; i < n; i++) {
      z = nextDrawn(z);
      int a = (z >>> 9) % f;
      z = nextDrawn(z);
      int b = (z >>> 9) % (f - 1);
      z = nextDrawn(z);
      int size = 1 + (z >>> 9) % 4;
      thought.takeCall(a, b >= a ? b + 1 : b, size);
    }
    return thought.finish();
  }

  private static int nextDrawn(int z) {
    return z * 1103515245 + 12345;
  }

  private int tellEnd(int ticks, int what) {
    switch (what) {
      case 0: return ticks;
      case 1: return thought.groups.longestWaited();
      default: return thought.passed;
    }
  }

  /** Does clause i that was read last: below 0, if it is refused. */
  private int perform(int i) {
    int a = tape.numberOf(i, 0);
    int b = tape.numberOf(i, 1);
    int c = tape.numberOf(i, 2);
    switch (tape.wordOf(i)) {
      case Tape.CALL: return hall.takeCall(a, b, c);
      case Tape.TICK: return ticks(a);
      case Tape.GIVE: return give(a, b);
      case Tape.WAY: return way(a);
      case Tape.REGIVE: return hall.regiveAll();
      case Tape.PARK: return hall.parkIdle();
      default: return BAD;
    }
  }

  /** The first number of a sheet that is otherwise for a car of this kind and figure, or NONE. */
  private int firstOtherwise(Sheet row, int car, int kind, int figure) {
    thought.become(hall);
    Car it = thought.cars[car];
    it.kind = kind;
    it.figure = figure;
    for (int i = 0; i < row.size; i++) {
      thought.move(car);
      if (row.items[i] != it.floor) {
        return i;
      }
    }
    return NONE;
  }

  private int kindsSo(Sheet row, int car) {
    int bits = 0;
    for (int kind = 0; kind < KINDS; kind++) {
      if (firstOtherwise(row, car, kind, hall.cars[car].figure) == NONE) {
        bits |= 1 << kind;
      }
    }
    return bits;
  }

  private int figuresSo(Sheet row, int car) {
    int bits = 0;
    for (int figure = 0; figure < FIGURES; figure++) {
      if (firstOtherwise(row, car, hall.cars[car].kind, figure) == NONE) {
        bits |= 1 << figure;
      }
    }
    return bits;
  }

  /** A car, and what follows from its kind. */
  private static final class Car {
    static final int UP = 1, DOWN = 2;
    static final int PLAIN = 0, EXPRESS = 1, FREIGHT = 2, NIGHT = 3, CRANE = 4, GUEST = 5;
    private static final int FIRST_ROOM = 4;
    private static final int[] KIND_ABOVE = {NONE, PLAIN, PLAIN, EXPRESS, FREIGHT, PLAIN};

    int kind;
    int figure;
    int room;
    int floor;
    int direction;
    int wait;
    int parkFloor;
    boolean goes;

    void reset() {
      kind = PLAIN;
      figure = 0;
      room = FIRST_ROOM;
      floor = 0;
      direction = 0;
      wait = 0;
      parkFloor = NONE;
      goes = false;
    }

    void become(Car other) {
      kind = other.kind;
      figure = other.figure;
      room = other.room;
      floor = other.floor;
      direction = other.direction;
      wait = other.wait;
      parkFloor = other.parkFloor;
      goes = other.goes;
    }

    int paceWith(int riders) {
      switch (kind) {
        case EXPRESS: return 1;
        case FREIGHT: return 3;
        case NIGHT: return 1 + figure % 2;
        case CRANE: return 3 + riders / 2;
        default: return 2;
      }
    }

    int stay() {
      switch (kind) {
        case FREIGHT: return 2;
        case NIGHT: return 1 + figure % 3;
        case CRANE: return 3;
        case GUEST: return 1 + figure;
        default: return 1;
      }
    }

    boolean isOneOf(int asked) {
      int at = kind;
      for (int step = 0; step < KIND_ABOVE.length; step++) {
        if (at == asked) {
          return true;
        }
        if (at < 0 || at >= KIND_ABOVE.length) {
          return false;
        }
        at = KIND_ABOVE[at];
      }
      return false;
    }

    /** What is told of a car that needs no look at its groups. */
    int figureOf(int what) {
      switch (what) {
        case 0: return kind;
        case 1: return figure;
        case 2: return room;
        case 3: return floor;
        case 4: return direction;
        case 5: return wait;
        case 6: return goes ? 1 : 0;
        case 7: return parkFloor;
        case 11: return stay();
        default: return BAD;
      }
    }
  }

  /** All groups that have called, by their numbers. */
  private static final class Groups {
    static final int WAITS = 0, RIDES = 1, THERE = 2;
    static final int MOST_CALLED = 40, MOST_LIVE = 12;

    final int[] from = new int[MOST_CALLED];
    final int[] to = new int[MOST_CALLED];
    final int[] size = new int[MOST_CALLED];
    final int[] car = new int[MOST_CALLED];
    final int[] how = new int[MOST_CALLED];
    final int[] called = new int[MOST_CALLED];
    final int[] waited = new int[MOST_CALLED];
    final int[] given = new int[MOST_CALLED];
    // The numbers of those that wait or ride, ascending: moves look at these alone.
    final int[] live = new int[MOST_LIVE];
    int liveCount;
    int count;

    void clear() {
      count = 0;
      liveCount = 0;
    }

    void become(Groups other) {
      count = other.count;
      liveCount = other.liveCount;
      System.arraycopy(other.from, 0, from, 0, MOST_CALLED);
      System.arraycopy(other.to, 0, to, 0, MOST_CALLED);
      System.arraycopy(other.size, 0, size, 0, MOST_CALLED);
      System.arraycopy(other.car, 0, car, 0, MOST_CALLED);
      System.arraycopy(other.how, 0, how, 0, MOST_CALLED);
      System.arraycopy(other.called, 0, called, 0, MOST_CALLED);
      System.arraycopy(other.waited, 0, waited, 0, MOST_CALLED);
      System.arraycopy(other.given, 0, given, 0, MOST_CALLED);
      System.arraycopy(other.live, 0, live, 0, MOST_LIVE);
    }

    boolean isFull() {
      return count >= MOST_CALLED || liveCount >= MOST_LIVE;
    }

    /** Takes one in that is no car's yet; the caller has asked isFull before. */
    int add(int fromFloor, int toFloor, int people, int tick) {
      int g = count;
      from[g] = fromFloor;
      to[g] = toFloor;
      size[g] = people;
      car[g] = NONE;
      how[g] = WAITS;
      called[g] = tick;
      waited[g] = 0;
      given[g] = 0;
      live[liveCount] = g;
      liveCount++;
      count++;
      return g;
    }

    /** Leaves those out of the live ones that are there by now. */
    void dropThere() {
      int stay = 0;
      for (int i = 0; i < liveCount; i++) {
        if (how[live[i]] != THERE) {
          live[stay] = live[i];
          stay++;
        }
      }
      liveCount = stay;
    }

    int waitedBy(int g, int now) {
      return how[g] == WAITS ? now - called[g] : waited[g];
    }

    int directionOf(int g) {
      return to[g] > from[g] ? Car.UP : Car.DOWN;
    }

    boolean waitsAt(int g, int c, int floor) {
      return car[g] == c && how[g] == WAITS && from[g] == floor;
    }

    int ownOf(int c) {
      int own = 0;
      for (int i = 0; i < liveCount; i++) {
        if (car[live[i]] == c) {
          own++;
        }
      }
      return own;
    }

    int ridersOf(int c) {
      int people = 0;
      for (int i = 0; i < liveCount; i++) {
        int g = live[i];
        if (car[g] == c && how[g] == RIDES) {
          people += size[g];
        }
      }
      return people;
    }

    /** How many people a car has that wait or ride, but for one group's. */
    int peopleBut(int c, int left) {
      int people = 0;
      for (int i = 0; i < liveCount; i++) {
        int g = live[i];
        if (car[g] == c && g != left) {
          people += size[g];
        }
      }
      return people;
    }

    int howMany(int state) {
      int many = 0;
      for (int g = 0; g < count; g++) {
        if (how[g] == state) {
          many++;
        }
      }
      return many;
    }

    int oldestWaiting() {
      for (int i = 0; i < liveCount; i++) {
        if (how[live[i]] == WAITS) {
          return live[i];
        }
      }
      return NONE;
    }

    int longest() {
      int best = NONE;
      for (int g = 0; g < count; g++) {
        if (how[g] != WAITS && (best == NONE || waited[g] > waited[best])) {
          best = g;
        }
      }
      return best;
    }

    int longestWaited() {
      int best = longest();
      return best == NONE ? NONE : waited[best];
    }
  }

  /** The latest events, in a ring. */
  private static final class Journal {
    static final int CALLED = 0, BOARDED = 1, THERE = 2, GIVEN_ANEW = 3;
    private static final int MOST_HELD = 20;

    private final int[] sorts = new int[MOST_HELD];
    private final int[] groups = new int[MOST_HELD];
    private final int[] cars = new int[MOST_HELD];
    private final int[] ticks = new int[MOST_HELD];
    int held;
    private int next;

    void clear() {
      next = 0;
      held = 0;
    }

    void become(Journal other) {
      next = other.next;
      held = other.held;
      System.arraycopy(other.sorts, 0, sorts, 0, MOST_HELD);
      System.arraycopy(other.groups, 0, groups, 0, MOST_HELD);
      System.arraycopy(other.cars, 0, cars, 0, MOST_HELD);
      System.arraycopy(other.ticks, 0, ticks, 0, MOST_HELD);
    }

    void note(int sort, int group, int car, int tick) {
      sorts[next] = sort;
      groups[next] = group;
      cars[next] = car;
      ticks[next] = tick;
      next = next + 1 < MOST_HELD ? next + 1 : 0;
      if (held < MOST_HELD) {
        held++;
      }
    }

    boolean has(int i) {
      return i >= 0 && i < held;
    }

    /** Of event i, counted from the latest; the caller has asked has(i) before. */
    int tell(int i, int what) {
      int at = (next - 1 - i + MOST_HELD) % MOST_HELD;
      switch (what) {
        case 0: return sorts[at];
        case 1: return groups[at];
        case 2: return cars[at];
        default: return ticks[at];
      }
    }
  }

  /** All that an image keeps: floors, cars, groups, what was noted, and how calls are given. */
  private static final class Hall {
    static final int MOST_FLOORS = 12, MOST_CARS = 4, MOST_SIZE = 8, MOST_GIVEN = 2;
    static final int MOST_THOUGHT = 2500;
    private static final int FIRST_FLOORS = 8, FIRST_CARS = 2, FIRST_GAP = 3;
    private static final int NEAR = 0, LIGHT = 1, SOON = 2;
    private static final int TOO_BIG = 999, EACH_PERSON = 10, MOST_SOON = 120;

    int floors;
    int carCount;
    int tick;
    int passed;
    int way;
    int gap;
    final Car[] cars;
    final Groups groups;
    final int[] demands;
    final Journal journal;
    // Where this hall plays what is thought; null where nothing more is thought.
    private final Hall deeper;

    Hall(Hall deeper) {
      this.deeper = deeper;
      cars = new Car[MOST_CARS];
      for (int c = 0; c < MOST_CARS; c++) {
        cars[c] = new Car();
      }
      groups = new Groups();
      demands = new int[MOST_FLOORS];
      journal = new Journal();
      way = NEAR;
      gap = FIRST_GAP;
      reset(FIRST_FLOORS, FIRST_CARS);
    }

    void reset(int f, int k) {
      floors = f;
      carCount = k;
      tick = 0;
      passed = 0;
      for (int c = 0; c < MOST_CARS; c++) {
        cars[c].reset();
      }
      for (int a = 0; a < MOST_FLOORS; a++) {
        demands[a] = 0;
      }
      groups.clear();
      journal.clear();
    }

    void become(Hall other) {
      floors = other.floors;
      carCount = other.carCount;
      tick = other.tick;
      passed = other.passed;
      way = other.way;
      gap = other.gap;
      for (int c = 0; c < MOST_CARS; c++) {
        cars[c].become(other.cars[c]);
      }
      System.arraycopy(other.demands, 0, demands, 0, MOST_FLOORS);
      groups.become(other.groups);
      journal.become(other.journal);
    }

    boolean isFloor(int a) {
      return a >= 0 && a < floors;
    }

    boolean isCar(int c) {
      return c >= 0 && c < carCount;
    }

    boolean isGroup(int g) {
      return g >= 0 && g < groups.count;
    }

    boolean waits(int g) {
      return groups.how[g] == Groups.WAITS;
    }

    boolean hasRoom(int g, int c) {
      return groups.size[g] <= cars[c].room;
    }

    /** The floors where a car will stop, a bit each. */
    int stopsOf(int c) {
      int park = cars[c].parkFloor;
      int stops = park == NONE ? 0 : 1 << park;
      for (int i = 0; i < groups.liveCount; i++) {
        int g = groups.live[i];
        if (groups.car[g] == c) {
          stops |= 1 << (groups.how[g] == Groups.WAITS ? groups.from[g] : groups.to[g]);
        }
      }
      return stops;
    }

    /** The i-th stop of a car's sweep, or NONE. */
    int stopBySweep(int c, int i) {
      int stops = stopsOf(c);
      int floor = cars[c].floor;
      int step = cars[c].direction == Car.DOWN ? -1 : 1;
      int before = 0;
      for (int k = 0; k < 2 * MOST_FLOORS; k++) {
        // The first half leads from the car's floor on, the second one back from behind it.
        int at = k < MOST_FLOORS ? floor + step * k : floor - step * (k - MOST_FLOORS + 1);
        if (isFloor(at) && hasBit(stops, at)) {
          if (before == i) {
            return at;
          }
          before++;
        }
      }
      return NONE;
    }

    // ---- calls

    /** A call: the group's number, or why it is refused. */
    int takeCall(int from, int to, int size) {
      if (!isFloor(from) || !isFloor(to) || from == to || size < 1 || size > MOST_SIZE) {
        return BAD;
      }
      if (!anyHasRoom(size)) {
        return STATE;
      }
      if (groups.isFull()) {
        return FULL;
      }
      int g = groups.add(from, to, size, tick);
      demands[from]++;
      int best = 0;
      int least = costFor(g, 0);
      for (int c = 1; c < carCount; c++) {
        int cost = costFor(g, c);
        if (cost < least) {
          best = c;
          least = cost;
        }
      }
      assign(g, best);
      journal.note(Journal.CALLED, g, best, tick);
      return g;
    }

    private boolean anyHasRoom(int size) {
      for (int c = 0; c < carCount; c++) {
        if (size <= cars[c].room) {
          return true;
        }
      }
      return false;
    }

    private void assign(int g, int c) {
      groups.car[g] = c;
      cars[c].parkFloor = NONE;
    }

    void giveAnew(int g, int c) {
      assign(g, c);
      groups.given[g]++;
      journal.note(Journal.GIVEN_ANEW, g, c, tick);
    }

    /** Gives those anew that cost so much less elsewhere: how many. */
    int regiveAll() {
      int many = 0;
      for (int i = 0; i < groups.liveCount; i++) {
        int g = groups.live[i];
        if (!waits(g) || groups.given[g] >= MOST_GIVEN) {
          continue;
        }
        int own = costFor(g, groups.car[g]);
        int best = groups.car[g];
        // Only what is below the own cost by the gap may count, and it must be the least of all.
        int bound = own - gap + 1;
        for (int c = 0; c < carCount; c++) {
          int cost = costFor(g, c);
          if (cost < bound) {
            best = c;
            bound = cost;
          }
        }
        if (best != groups.car[g]) {
          giveAnew(g, best);
          many++;
        }
      }
      return many;
    }

    int costFor(int g, int c) {
      if (!isCar(c) || !hasRoom(g, c)) {
        return TOO_BIG;
      }
      if (way == SOON) {
        int ticks = ticksTill(g, c, Groups.RIDES, MOST_SOON);
        return ticks == NONE ? MOST_SOON : ticks;
      }
      int near = distance(cars[c], groups.from[g]);
      return way == LIGHT ? EACH_PERSON * groups.peopleBut(c, g) + near : near;
    }

    private int distance(Car it, int a) {
      int far = Math.abs(a - it.floor);
      boolean behind = it.direction == Car.UP && a < it.floor
          || it.direction == Car.DOWN && a > it.floor;
      return behind ? far + 2 * floors : far;
    }

    // ---- in thought

    /** The ticks till a group is so far, were it that car's; NONE, if it isn't within the limit. */
    int ticksTill(int g, int c, int how, int limit) {
      Hall play = deeper;
      if (play == null) {
        return NONE;
      }
      play.become(this);
      play.assign(g, c);
      // A car's way depends on its own groups alone, so the other cars may stand still.
      for (int n = 1; n <= limit; n++) {
        play.move(c);
        if (play.groups.how[g] >= how) {
          return n;
        }
      }
      return NONE;
    }

    int soonestCar(int g) {
      int best = NONE;
      int least = MOST_THOUGHT + 2;
      for (int c = 0; c < carCount; c++) {
        if (hasRoom(g, c)) {
          int ticks = ticksTill(g, c, Groups.THERE, MOST_THOUGHT);
          // Never is later than any time, but a car that never comes is better than none.
          int time = ticks == NONE ? MOST_THOUGHT + 1 : ticks;
          if (time < least) {
            best = c;
            least = time;
          }
        }
      }
      return best;
    }

    /** Ticks till nobody waits or rides: how many, NONE if there are more than may be thought. */
    int finish() {
      for (int n = 0; n < MOST_THOUGHT; n++) {
        if (groups.liveCount == 0) {
          return n;
        }
        passTick();
      }
      return groups.liveCount == 0 ? MOST_THOUGHT : NONE;
    }

    // ---- ticks, parking

    /** One tick of all cars: how many groups are there by it. */
    int passTick() {
      tick++;
      int there = 0;
      for (int c = 0; c < carCount; c++) {
        there += move(c);
      }
      return there;
    }

    /** One tick of one car: how many groups are there by it. */
    int move(int c) {
      Car it = cars[c];
      if (it.wait > 0) {
        it.wait--;
        if (it.wait > 0) {
          return 0;
        }
      }
      if (it.goes) {
        it.floor += it.direction == Car.UP ? 1 : -1;
        it.goes = false;
      }
      if (it.parkFloor == it.floor) {
        it.parkFloor = NONE;
      }
      int there = letOut(c);
      int stops = stopsOf(c);
      int riders = groups.ridersOf(c);
      if (riders == 0) {
        it.direction = lookAround(c, stops);
      }
      int boarded = letIn(c, riders);
      if (there + boarded > 0) {
        it.wait = it.stay();
      } else if (it.direction != 0 && (riders > 0 || isAhead(stops, it.floor, it.direction))) {
        it.goes = true;
        it.wait = it.paceWith(riders);
      } else {
        it.direction = 0;
      }
      return there;
    }

    private int letOut(int c) {
      int there = 0;
      for (int i = 0; i < groups.liveCount; i++) {
        int g = groups.live[i];
        if (groups.car[g] == c && groups.how[g] == Groups.RIDES && groups.to[g] == cars[c].floor) {
          groups.how[g] = Groups.THERE;
          journal.note(Journal.THERE, g, c, tick);
          there++;
        }
      }
      if (there > 0) {
        groups.dropThere();
      }
      return there;
    }

    /** The direction in which an empty car goes on. */
    private int lookAround(int c, int stops) {
      int floor = cars[c].floor;
      int first = 0;
      boolean goodUp = isAhead(stops, floor, Car.UP);
      boolean goodDown = isAhead(stops, floor, Car.DOWN);
      for (int i = 0; i < groups.liveCount; i++) {
        int g = groups.live[i];
        if (groups.waitsAt(g, c, floor)) {
          int direction = groups.directionOf(g);
          first = first == 0 ? direction : first;
          goodUp = goodUp || direction == Car.UP;
          goodDown = goodDown || direction == Car.DOWN;
        }
      }
      switch (cars[c].direction) {
        case Car.UP: return goodUp ? Car.UP : goodDown ? Car.DOWN : 0;
        case Car.DOWN: return goodDown ? Car.DOWN : goodUp ? Car.UP : 0;
        default: return first != 0 ? first : towardsNearest(stops, floor);
      }
    }

    private static boolean isAhead(int stops, int floor, int direction) {
      if (direction == Car.UP) {
        return (stops >> (floor + 1)) != 0;
      }
      return direction == Car.DOWN && (stops & ((1 << floor) - 1)) != 0;
    }

    private static int towardsNearest(int stops, int floor) {
      for (int far = 1; far < MOST_FLOORS; far++) {
        if (far <= floor && ((stops >> (floor - far)) & 1) != 0) {
          return Car.DOWN;
        }
        if (((stops >> (floor + far)) & 1) != 0) {
          return Car.UP;
        }
      }
      return 0;
    }

    private int letIn(int c, int riders) {
      Car it = cars[c];
      int ride = riders;
      int boarded = 0;
      boolean someStay = false;
      for (int i = 0; i < groups.liveCount; i++) {
        int g = groups.live[i];
        if (!groups.waitsAt(g, c, it.floor) || groups.directionOf(g) != it.direction) {
          continue;
        }
        if (ride + groups.size[g] > it.room) {
          someStay = true;
          continue;
        }
        ride += groups.size[g];
        groups.how[g] = Groups.RIDES;
        groups.waited[g] = tick - groups.called[g];
        passed += someStay ? 1 : 0;
        journal.note(Journal.BOARDED, g, c, tick);
        boarded++;
      }
      return boarded;
    }

    /** Parks the idle cars where most calls came from: how many are sent. */
    int parkIdle() {
      int sent = 0;
      int rank = 0;
      for (int c = 0; c < carCount; c++) {
        Car it = cars[c];
        if (it.parkFloor != NONE || it.goes || groups.ownOf(c) > 0) {
          continue;
        }
        int a = floorByDemand(rank);
        rank++;
        if (a != NONE && a != it.floor) {
          it.parkFloor = a;
          sent++;
        }
      }
      return sent;
    }

    /** The floor of a rank by demand; NONE, if there is none or nobody called from it. */
    private int floorByDemand(int rank) {
      for (int a = 0; a < floors; a++) {
        int ahead = 0;
        for (int b = 0; b < floors; b++) {
          if (demands[b] > demands[a] || demands[b] == demands[a] && b < a) {
            ahead++;
          }
        }
        if (ahead == rank) {
          return demands[a] > 0 ? a : NONE;
        }
      }
      return NONE;
    }
  }

  /** The tape, and the clauses that were read from it last. */
  private static final class Tape {
    static final int MOST_BYTES = 60;
    static final int CALL = 0, TICK = 1, GIVE = 2, WAY = 3, REGIVE = 4, PARK = 5;
    private static final int WORDS = 6, MOST_NUMBERS = 3, MOST_DIGITS = 2;
    private static final int[] NUMBERS_OF = {3, 1, 2, 1, 0, 0};
    private static final int END = 0, WORD = 1, NUMBER = 2, SIGN = 3, BLANK = 4, OTHER = 5;

    int size;
    int clauses;
    private final int[] bytes = new int[MOST_BYTES];
    // A clause takes more than one byte, so there are never more clauses than bytes.
    private final int[] words = new int[MOST_BYTES];
    private final int[] numbers = new int[MOST_NUMBERS * MOST_BYTES];
    // The token looked at: its sort, its first byte, the byte behind it.
    private int token;
    private int start;
    private int end;

    void add(int b) {
      if (size < MOST_BYTES) {
        bytes[size] = b;
        size++;
      }
    }

    int wordOf(int i) {
      return i >= 0 && i < clauses ? words[i] : NONE;
    }

    int numberOf(int i, int k) {
      boolean has = i >= 0 && i < clauses && k >= 0 && k < MOST_NUMBERS;
      return has ? numbers[MOST_NUMBERS * i + k] : 0;
    }

    /** Reads the tape as a text: the place of its fault, or NONE. */
    int read() {
      clauses = 0;
      end = 0;
      for (int i = 0; i < MOST_BYTES; i++) {
        if (!readClause(i)) {
          return start;
        }
        clauses = i + 1;
        advance();
        if (token != SIGN) {
          break;
        }
      }
      return token == END ? NONE : start;
    }

    /** Reads one clause; false with its fault's place in start. */
    private boolean readClause(int i) {
      advance();
      int word = token == WORD ? wordHere() : NONE;
      if (word == NONE) {
        return false;
      }
      words[i] = word;
      for (int k = 0; k < NUMBERS_OF[word]; k++) {
        advance();
        if (token != NUMBER || end - start > MOST_DIGITS) {
          return false;
        }
        numbers[MOST_NUMBERS * i + k] = valueHere();
      }
      return true;
    }

    private void advance() {
      while (end < size && sortOf(bytes[end]) == BLANK) {
        end++;
      }
      start = end;
      if (end >= size) {
        token = END;
        return;
      }
      token = sortOf(bytes[end]);
      end++;
      if (token == WORD || token == NUMBER) {
        while (end < size && sortOf(bytes[end]) == token) {
          end++;
        }
      }
    }

    private static int sortOf(int b) {
      if (b >= 'a' && b <= 'z') {
        return WORD;
      }
      if (b >= '0' && b <= '9') {
        return NUMBER;
      }
      if (b == ' ' || b == '\n') {
        return BLANK;
      }
      return b == ';' ? SIGN : OTHER;
    }

    private int valueHere() {
      int value = 0;
      for (int at = start; at < end; at++) {
        value = 10 * value + bytes[at] - '0';
      }
      return value;
    }

    private int wordHere() {
      for (int word = 0; word < WORDS; word++) {
        if (isHere(spelling(word))) {
          return word;
        }
      }
      return NONE;
    }

    private boolean isHere(String word) {
      if (word.length() != end - start) {
        return false;
      }
      for (int k = 0; k < word.length(); k++) {
        if (bytes[start + k] != word.charAt(k)) {
          return false;
        }
      }
      return true;
    }

    private static String spelling(int word) {
      switch (word) {
        case CALL: return "call";
        case TICK: return "tick";
        case GIVE: return "give";
        case WAY: return "way";
        case REGIVE: return "regive";
        default: return "park";
      }
    }
  }

  /** A row of numbers of one sort, or missing. */
  private static final class Sheet {
    int sort = NONE;
    int size;
    final int[] items = new int[MOST_ITEMS];

    void become(int newSort, int n) {
      sort = newSort;
      size = n;
      for (int i = 0; i < MOST_ITEMS; i++) {
        items[i] = 0;
      }
    }

    boolean holds(int at, int n) {
      return at >= 0 && n >= 0 && at <= size && n <= size - at;
    }

    /** Item i becomes v; the caller has asked holds(i, 1) before. */
    void set(int i, int v) {
      items[i] = sort == BYTES ? v & 255 : v;
    }
  }
}
