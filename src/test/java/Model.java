import java.util.ArrayList;
import java.util.Arrays;
import java.util.Comparator;
import java.util.List;
import java.util.TreeSet;
import java.util.function.Predicate;
import java.util.regex.Matcher;
import java.util.regex.Pattern;
import java.util.stream.Collectors;
import java.util.stream.IntStream;

/**
 * The document once more, written as plainly as the library allows and with no thought of speed:
 * ModelTest compares the class with it on random runs. It shares no line with the class.
 */
public final class Model {
  private static final int NONE = -1, BAD = -2, STATE = -3, FULL = -4;

  // ---- kinds

  private static class Plain {
    int figure;

    int pace(int riders) {
      return 2;
    }

    int stay() {
      return 1;
    }
  }

  private static class Express extends Plain {
    @Override int pace(int riders) {
      return super.pace(riders) - 1;
    }
  }

  private static class Freight extends Plain {
    @Override int pace(int riders) {
      return super.pace(riders) + 1;
    }

    @Override int stay() {
      return super.stay() + 1;
    }
  }

  private static final class Night extends Express {
    @Override int pace(int riders) {
      return super.pace(riders) + (figure % 2 == 1 ? 1 : 0);
    }

    @Override int stay() {
      return new Plain().stay() + figure % 3;
    }
  }

  private static final class Crane extends Freight {
    @Override int pace(int riders) {
      return super.pace(riders) + riders / 2;
    }

    @Override int stay() {
      return super.stay() + 1;
    }
  }

  private static final class Guest extends Plain {
    @Override int stay() {
      return super.stay() + figure;
    }
  }

  private static final List<Class<? extends Plain>> KINDS =
      List.of(Plain.class, Express.class, Freight.class, Night.class, Crane.class, Guest.class);

  private static Plain kindOf(int kind, int figure) {
    Plain made = switch (kind) {
      case 0 -> new Plain();
      case 1 -> new Express();
      case 2 -> new Freight();
      case 3 -> new Night();
      case 4 -> new Crane();
      default -> new Guest();
    };
    made.figure = figure;
    return made;
  }

  // ---- cars, groups, the world

  private static final class Lift {
    Plain kind = new Plain();
    int room = 4;
    int floor;
    int direction;
    int wait;
    boolean goes;
    Integer park;

    Lift copy() {
      Lift c = new Lift();
      c.kind = kind;
      c.room = room;
      c.floor = floor;
      c.direction = direction;
      c.wait = wait;
      c.goes = goes;
      c.park = park;
      return c;
    }
  }

  private enum How { WAITS, RIDES, THERE }

  private static final class Party {
    final int number;
    final int from;
    final int to;
    final int size;
    final int called;
    Integer car;
    How how = How.WAITS;
    int boardedAt;
    int given;

    Party(int number, int from, int to, int size, int called) {
      this.number = number;
      this.from = from;
      this.to = to;
      this.size = size;
      this.called = called;
    }

    Party copy() {
      Party c = new Party(number, from, to, size, called);
      c.car = car;
      c.how = how;
      c.boardedAt = boardedAt;
      c.given = given;
      return c;
    }

    int direction() {
      return to > from ? 1 : 2;
    }
  }

  private static final class World {
    int f = 8;
    int tick;
    int passed;
    int way;
    int gap = 3;
    List<Lift> lifts = new ArrayList<>(List.of(new Lift(), new Lift()));
    List<Party> parties = new ArrayList<>();
    List<int[]> events = new ArrayList<>();

    World copy() {
      World w = new World();
      w.f = f;
      w.tick = tick;
      w.passed = passed;
      w.way = way;
      w.gap = gap;
      w.lifts = lifts.stream().map(Lift::copy).collect(Collectors.toCollection(ArrayList::new));
      w.parties = parties.stream().map(Party::copy).collect(Collectors.toCollection(ArrayList::new));
      w.events = new ArrayList<>(events);
      return w;
    }

    void event(int which, Party p) {
      events.add(0, new int[] {which, p.number, p.car, tick});
      if (events.size() > 20) {
        events.remove(20);
      }
    }

    List<Party> those(Predicate<Party> test) {
      return parties.stream().filter(test).toList();
    }

    List<Party> own(int car) {
      return those(p -> p.car != null && p.car == car && p.how != How.THERE);
    }

    List<Party> riders(int car) {
      return own(car).stream().filter(p -> p.how == How.RIDES).toList();
    }

    List<Party> waitingHere(int car) {
      int floor = lifts.get(car).floor;
      return own(car).stream().filter(p -> p.how == How.WAITS && p.from == floor).toList();
    }

    int people(List<Party> some) {
      return some.stream().mapToInt(p -> p.size).sum();
    }

    TreeSet<Integer> stops(int car) {
      TreeSet<Integer> stops = new TreeSet<>();
      for (Party p : own(car)) {
        stops.add(p.how == How.WAITS ? p.from : p.to);
      }
      if (lifts.get(car).park != null) {
        stops.add(lifts.get(car).park);
      }
      return stops;
    }

    boolean further(int car, int direction) {
      Lift l = lifts.get(car);
      return stops(car).stream().anyMatch(s -> direction == 1 ? s > l.floor : s < l.floor);
    }

    boolean good(int car, int direction) {
      return waitingHere(car).stream().anyMatch(p -> p.direction() == direction)
          || further(car, direction);
    }

    int look(int car) {
      Lift l = lifts.get(car);
      if (l.direction != 0) {
        int other = 3 - l.direction;
        return good(car, l.direction) ? l.direction : good(car, other) ? other : 0;
      }
      if (!waitingHere(car).isEmpty()) {
        return waitingHere(car).get(0).direction();
      }
      Comparator<Integer> nearest = Comparator.comparing(s -> Math.abs(s - l.floor));
      return stops(car).stream().filter(s -> s != l.floor)
          .min(nearest.thenComparing(Comparator.naturalOrder()))
          .map(s -> s > l.floor ? 1 : 2).orElse(0);
    }

    int tick() {
      tick++;
      int before = those(p -> p.how == How.THERE).size();
      for (int c = 0; c < lifts.size(); c++) {
        tickOf(c);
      }
      return those(p -> p.how == How.THERE).size() - before;
    }

    void tickOf(int c) {
      Lift l = lifts.get(c);
      if (l.wait > 0 && --l.wait > 0) {
        return;
      }
      if (l.goes) {
        l.floor += l.direction == 1 ? 1 : -1;
        l.goes = false;
      }
      if (l.park != null && l.park == l.floor) {
        l.park = null;
      }
      boolean some = false;
      for (Party p : riders(c)) {
        if (p.to == l.floor) {
          p.how = How.THERE;
          event(2, p);
          some = true;
        }
      }
      if (riders(c).isEmpty()) {
        l.direction = look(c);
      }
      List<Party> these = waitingHere(c).stream().filter(p -> p.direction() == l.direction).toList();
      for (Party p : these) {
        if (people(riders(c)) + p.size <= l.room) {
          p.how = How.RIDES;
          p.boardedAt = tick;
          event(1, p);
          some = true;
          if (these.stream().anyMatch(q -> q.number < p.number && q.how == How.WAITS)) {
            passed++;
          }
        }
      }
      if (some) {
        l.wait = l.kind.stay();
      } else if (l.direction != 0 && (!riders(c).isEmpty() || further(c, l.direction))) {
        l.goes = true;
        l.wait = l.kind.pace(people(riders(c)));
      } else {
        l.direction = 0;
      }
    }

    int waited(Party p) {
      return (p.how == How.WAITS ? tick : p.boardedAt) - p.called;
    }

    int cost(Party p, int car) {
      Lift l = lifts.get(car);
      if (p.size > l.room) {
        return 999;
      }
      if (way == 2) {
        Integer ticks = would(p.number, car, How.RIDES, 120);
        return ticks == null ? 120 : ticks;
      }
      int near = Math.abs(p.from - l.floor);
      if (l.direction == 1 && p.from < l.floor || l.direction == 2 && p.from > l.floor) {
        near += 2 * f;
      }
      int others = people(own(car).stream().filter(q -> q != p).toList());
      return way == 0 ? near : near + 10 * others;
    }

    Integer would(int group, int car, How how, int most) {
      World w = copy();
      w.parties.get(group).car = car;
      w.lifts.get(car).park = null;
      for (int n = 1; n <= most; n++) {
        w.tick();
        if (w.parties.get(group).how.compareTo(how) >= 0) {
          return n;
        }
      }
      return null;
    }

    int cheapest(Party p) {
      return IntStream.range(0, lifts.size()).boxed()
          .min(Comparator.comparing((Integer c) -> cost(p, c)).thenComparing(c -> c)).get();
    }

    void assign(Party p, int car, int which) {
      p.car = car;
      lifts.get(car).park = null;
      event(which, p);
    }

    int call(int from, int to, int size) {
      if (from < 0 || from >= f || to < 0 || to >= f || from == to || size < 1 || size > 8) {
        return BAD;
      }
      if (lifts.stream().noneMatch(l -> size <= l.room)) {
        return STATE;
      }
      if (parties.size() == 40 || those(p -> p.how != How.THERE).size() == 12) {
        return FULL;
      }
      Party p = new Party(parties.size(), from, to, size, tick);
      parties.add(p);
      assign(p, cheapest(p), 0);
      return p.number;
    }

    void giveAnew(Party p, int car) {
      p.given++;
      assign(p, car, 3);
    }

    int demand(int floor) {
      return those(p -> p.from == floor).size();
    }

    Party longest() {
      return those(p -> p.how != How.WAITS).stream()
          .min(Comparator.comparing((Party p) -> -waited(p)).thenComparing(p -> p.number))
          .orElse(null);
    }

    Integer end() {
      for (int n = 0; n <= 2500; n++) {
        if (those(p -> p.how != How.THERE).isEmpty()) {
          return n;
        }
        if (n < 2500) {
          tick();
        }
      }
      return null;
    }
  }

  private World world = new World();
  private World image;
  private String tape = "";
  // byte[], int[] or null
  private final Object[] sheets = new Object[4];

  private boolean noCar(int car) {
    return car < 0 || car >= world.lifts.size();
  }

  private boolean noGroup(int group) {
    return group < 0 || group >= world.parties.size();
  }

  private static boolean out(int v, int from, int to) {
    return v < from || v > to;
  }

  private static int lowest(int above, int below, int part) {
    int a = java.math.BigInteger.valueOf(above).gcd(java.math.BigInteger.valueOf(below)).intValue();
    return (part == 0 ? above : below) / a;
  }

  // ---- floors, cars

  public int build(int f, int k) {
    if (out(f, 2, 12) || out(k, 1, 4)) {
      return BAD;
    }
    World w = new World();
    w.f = f;
    w.way = world.way;
    w.gap = world.gap;
    w.lifts = new ArrayList<>();
    for (int i = 0; i < k; i++) {
      w.lifts.add(new Lift());
    }
    int was = world.f;
    world = w;
    return was;
  }

  public int car(int car, int kind, int figure, int room) {
    if (noCar(car) || out(kind, 0, 5) || out(figure, 0, 9) || out(room, 1, 8)) {
      return BAD;
    }
    if (!world.own(car).isEmpty()) {
      return STATE;
    }
    Lift l = world.lifts.get(car);
    int was = KINDS.indexOf(l.kind.getClass()) * 10 + l.kind.figure;
    l.kind = kindOf(kind, figure);
    l.room = room;
    return was;
  }

  public int told(int car, int what) {
    if (noCar(car) || out(what, 0, 12)) {
      return BAD;
    }
    Lift l = world.lifts.get(car);
    int riding = world.people(world.riders(car));
    return switch (what) {
      case 0 -> KINDS.indexOf(l.kind.getClass());
      case 1 -> l.kind.figure;
      case 2 -> l.room;
      case 3 -> l.floor;
      case 4 -> l.direction;
      case 5 -> l.wait;
      case 6 -> l.goes ? 1 : 0;
      case 7 -> l.park == null ? NONE : l.park;
      case 8 -> riding;
      case 9 -> world.stops(car).stream().mapToInt(s -> 1 << s).sum();
      case 10 -> l.kind.pace(riding);
      case 11 -> l.kind.stay();
      default -> world.own(car).size();
    };
  }

  public int taken(int car, int k) {
    if (noCar(car) || out(k, 0, 5)) {
      return BAD;
    }
    Plain kind = world.lifts.get(car).kind;
    return KINDS.get(k).isInstance(kind) ? kind.pace(0) : -13;
  }

  // ---- calls

  public int call(int from, int to, int size) {
    return world.call(from, to, size);
  }

  public int group(int group, int what) {
    if (noGroup(group) || out(what, 0, 7)) {
      return BAD;
    }
    Party p = world.parties.get(group);
    return List.of(p.from, p.to, p.size, p.car, p.how.ordinal(), p.called, world.waited(p), p.given)
        .get(what);
  }

  public int way(int w) {
    if (out(w, 0, 2)) {
      return BAD;
    }
    int was = world.way;
    world.way = w;
    return was;
  }

  public int gap(int v) {
    if (out(v, 1, 20)) {
      return BAD;
    }
    int was = world.gap;
    world.gap = v;
    return was;
  }

  public int cost(int group, int car) {
    if (noGroup(group) || noCar(car)) {
      return BAD;
    }
    Party p = world.parties.get(group);
    return p.how != How.WAITS ? STATE : world.cost(p, car);
  }

  public int give(int group, int car) {
    if (noGroup(group) || noCar(car)) {
      return BAD;
    }
    Party p = world.parties.get(group);
    boolean small = p.size <= world.lifts.get(car).room;
    if (p.how != How.WAITS || p.car == car || p.given == 2 || !small) {
      return STATE;
    }
    world.giveAnew(p, car);
    return p.given;
  }

  public int regive() {
    int many = 0;
    for (Party p : world.those(q -> q.how == How.WAITS && q.given < 2)) {
      int best = world.cheapest(p);
      if (world.cost(p, p.car) - world.cost(p, best) >= world.gap) {
        world.giveAnew(p, best);
        many++;
      }
    }
    return many;
  }

  // ---- ticks, parking

  public int tick() {
    return world.tick();
  }

  public int ticks(int n) {
    return out(n, 0, 99) ? BAD : IntStream.range(0, n).map(i -> world.tick()).sum();
  }

  public int park() {
    List<Integer> floors = IntStream.range(0, world.f).boxed()
        .sorted(Comparator.comparing((Integer a) -> -world.demand(a)).thenComparing(a -> a)).toList();
    List<Lift> idle = new ArrayList<>();
    for (int c = 0; c < world.lifts.size(); c++) {
      Lift l = world.lifts.get(c);
      if (world.own(c).isEmpty() && l.park == null && !l.goes) {
        idle.add(l);
      }
    }
    int many = 0;
    for (int i = 0; i < Math.min(idle.size(), floors.size()); i++) {
      int floor = floors.get(i);
      if (world.demand(floor) > 0 && idle.get(i).floor != floor) {
        idle.get(i).park = floor;
        many++;
      }
    }
    return many;
  }

  public int demand(int floor, int part) {
    if (out(floor, 0, world.f - 1) || out(part, 0, 1)) {
      return BAD;
    }
    return world.parties.isEmpty() ? STATE
        : lowest(world.demand(floor), world.parties.size(), part);
  }

  public int sweep(int car, int i) {
    if (noCar(car)) {
      return BAD;
    }
    TreeSet<Integer> stops = world.stops(car);
    Lift l = world.lifts.get(car);
    List<Integer> above = new ArrayList<>(stops.tailSet(l.floor, false));
    List<Integer> below = new ArrayList<>(stops.headSet(l.floor, false).descendingSet());
    List<Integer> all = new ArrayList<>(stops.subSet(l.floor, true, l.floor, true));
    all.addAll(l.direction == 2 ? below : above);
    all.addAll(l.direction == 2 ? above : below);
    return i == -1 ? all.size() : out(i, 0, all.size() - 1) ? -12 : all.get(i);
  }

  public int near(int car, int other, int n) {
    if (noCar(car) || noCar(other) || out(n, 0, 11)) {
      return BAD;
    }
    return (int) world.stops(car).stream()
        .flatMap(a -> world.stops(other).stream().map(b -> Math.abs(a - b)))
        .filter(d -> d <= n).count();
  }

  public int oldest(int what) {
    if (out(what, 0, 4)) {
      return BAD;
    }
    Party old = world.those(p -> p.how == How.WAITS).stream().findFirst().orElse(null);
    Party longest = world.longest();
    return switch (what) {
      case 0 -> old == null ? NONE : old.number;
      case 1 -> old == null ? NONE : world.waited(old);
      case 2 -> longest == null ? NONE : longest.number;
      case 3 -> longest == null ? NONE : world.waited(longest);
      default -> world.passed;
    };
  }

  public int mean(int part) {
    if (out(part, 0, 1)) {
      return BAD;
    }
    List<Party> boarded = world.those(p -> p.how != How.WAITS);
    return boarded.isEmpty() ? STATE
        : lowest(boarded.stream().mapToInt(world::waited).sum(), boarded.size(), part);
  }

  // ---- in thought

  private static int tell(World w, int what) {
    Integer ticks = w.end();
    Party longest = w.longest();
    return switch (what) {
      case 0 -> ticks == null ? NONE : ticks;
      case 1 -> longest == null ? NONE : w.waited(longest);
      default -> w.passed;
    };
  }

  public int done(int what) {
    return out(what, 0, 2) ? BAD : tell(world.copy(), what);
  }

  public int would(int group, int car, int what) {
    if (noGroup(group) || noCar(car) || out(what, 0, 1)) {
      return BAD;
    }
    Party p = world.parties.get(group);
    if (p.how != How.WAITS || p.size > world.lifts.get(car).room) {
      return STATE;
    }
    Integer ticks = world.would(group, car, what == 0 ? How.RIDES : How.THERE, 2500);
    return ticks == null ? NONE : ticks;
  }

  public int soonest(int group) {
    if (noGroup(group)) {
      return BAD;
    }
    Party p = world.parties.get(group);
    if (p.how != How.WAITS) {
      return STATE;
    }
    return IntStream.range(0, world.lifts.size()).boxed()
        .filter(c -> p.size <= world.lifts.get(c).room)
        .min(Comparator.comparing((Integer c) -> {
          Integer ticks = world.would(group, c, How.THERE, 2500);
          return ticks == null ? 9999 : ticks;
        }).thenComparing(c -> c)).get();
  }

  private World draw(int seed, int n) {
    World w = world.copy();
    int[] z = {seed};
    java.util.function.IntUnaryOperator below = m -> {
      z[0] = z[0] * 1103515245 + 12345;
      return (z[0] >>> 9) % m;
    };
    for (int i = 0; i < n; i++) {
      int a = below.applyAsInt(w.f);
      int b = below.applyAsInt(w.f - 1);
      w.call(a, b + (b >= a ? 1 : 0), 1 + below.applyAsInt(4));
    }
    return w;
  }

  public int drawn(int seed, int n, int what) {
    return out(n, 0, 6) || out(what, 0, 2) ? BAD : tell(draw(seed, n), what);
  }

  public int chance(int seed, int m, int w, int part) {
    if (out(m, 1, 6) || out(w, 0, 999) || out(part, 0, 1)) {
      return BAD;
    }
    int good = 0;
    for (int i = 0; i < m; i++) {
      int waited = tell(draw(seed + i, 3), 1);
      good += waited != NONE && waited <= w ? 1 : 0;
    }
    return lowest(good, m, part);
  }

  // ---- texts, events

  public int feed(int n, int a, int b, int c, int d, int e) {
    int[] all = {a, b, c, d, e};
    if (out(n, 1, 5) || Arrays.stream(all).anyMatch(v -> out(v, 0, 255))) {
      return BAD;
    }
    if (tape.length() + n > 60) {
      return FULL;
    }
    for (int i = 0; i < n; i++) {
      tape += (char) all[i];
    }
    return tape.length();
  }

  private static final List<String> SHAPES = List.of(
      "call N N N", "tick N", "give N N", "way N", "regive", "park");

  public int text() {
    String text = tape;
    tape = "";
    List<int[]> clauses = new ArrayList<>();
    List<String> words = new ArrayList<>();
    Matcher m = Pattern.compile("[ \\n]*([a-z]+|[0-9]+|;|[^ \\n]|\\z)", Pattern.DOTALL).matcher(text);
    // What may stand next: W a word, N a number, S the sign or the end.
    String due = "W";
    int[] numbers = null;
    int at = 0;
    while (m.find(at)) {
      String token = m.group(1);
      int start = m.start(1);
      at = m.end(1);
      if (due.isEmpty() && token.isEmpty()) {
        break;
      }
      if (due.isEmpty() && token.equals(";")) {
        due = "W";
      } else if (due.startsWith("N") && token.matches("[0-9]{1,2}")) {
        numbers[numbers.length - due.length()] = Integer.parseInt(token);
        due = due.substring(1);
      } else if (due.equals("W") && SHAPES.stream().anyMatch(s -> s.split(" ")[0].equals(token))) {
        String shape = SHAPES.stream().filter(s -> s.split(" ")[0].equals(token)).findFirst().get();
        due = shape.replaceAll("[^N]", "");
        numbers = new int[due.length()];
        clauses.add(numbers);
        words.add(token);
      } else {
        return -100 - start;
      }
    }
    int done = 0;
    for (int i = 0; i < clauses.size(); i++) {
      int[] n = clauses.get(i);
      int answer = switch (words.get(i)) {
        case "call" -> call(n[0], n[1], n[2]);
        case "tick" -> ticks(n[0]);
        case "give" -> give(n[0], n[1]);
        case "way" -> way(n[0]);
        case "regive" -> regive();
        default -> park();
      };
      done += answer >= 0 ? 1 : 0;
    }
    return done;
  }

  public int event(int i, int what) {
    if (out(what, 0, 3)) {
      return BAD;
    }
    return out(i, 0, world.events.size() - 1) ? -12 : world.events.get(i)[what];
  }

  // ---- what was told

  private static int size(Object row) {
    return row instanceof byte[] bytes ? bytes.length : ((int[]) row).length;
  }

  private static int item(Object row, int i) {
    return row instanceof byte[] bytes ? bytes[i] & 255 : ((int[]) row)[i];
  }

  private int[] floors(int car, int n, int kind, int figure) {
    World w = world.copy();
    w.lifts.get(car).kind = kindOf(kind, figure);
    int[] floors = new int[n];
    for (int i = 0; i < n; i++) {
      w.tick();
      floors[i] = w.lifts.get(car).floor;
    }
    return floors;
  }

  public int tells(int sheet, int car, int what) {
    if (out(sheet, 0, 3) || noCar(car) || out(what, 0, 2)) {
      return BAD;
    }
    Object row = sheets[sheet];
    if (row == null) {
      return -11;
    }
    if (size(row) > 30) {
      return BAD;
    }
    int[] items = IntStream.range(0, size(row)).map(i -> item(row, i)).toArray();
    Plain now = world.lifts.get(car).kind;
    int kind = KINDS.indexOf(now.getClass());
    if (what == 0) {
      return Arrays.mismatch(items, floors(car, items.length, kind, now.figure));
    }
    if (what == 1) {
      return IntStream.range(0, 6)
          .filter(k -> Arrays.equals(items, floors(car, items.length, k, now.figure)))
          .map(k -> 1 << k).sum();
    }
    return IntStream.range(0, 10)
        .filter(g -> Arrays.equals(items, floors(car, items.length, kind, g)))
        .map(g -> 1 << g).sum();
  }

  public int film(int sheet, int car, int n) {
    if (out(sheet, 0, 3) || noCar(car) || out(n, 0, 30)) {
      return BAD;
    }
    Plain now = world.lifts.get(car).kind;
    int[] floors = floors(car, n, KINDS.indexOf(now.getClass()), now.figure);
    byte[] row = new byte[n];
    for (int i = 0; i < n; i++) {
      row[i] = (byte) floors[i];
    }
    sheets[sheet] = row;
    return n;
  }

  public int load(int sheet, int sort, int from, int n) {
    if (out(sheet, 0, 3) || out(sort, 0, 1) || out(n, 0, 6)) {
      return BAD;
    }
    Object row = sheets[sheet];
    if (row == null) {
      return -11;
    }
    if (sort == 0 != row instanceof byte[]) {
      return -13;
    }
    int called = 0;
    for (int i = 0; i < n; i++) {
      long at = from + 3L * i;
      if (at < 0 || at + 2 >= size(row)) {
        return -12;
      }
      int k = (int) at;
      called += call(item(row, k), item(row, k + 1), item(row, k + 2)) >= 0 ? 1 : 0;
    }
    return called;
  }

  public int image() {
    image = world.copy();
    return world.parties.size();
  }

  public int back() {
    if (image == null) {
      return STATE;
    }
    world = image.copy();
    return world.parties.size();
  }

  public int count(int what) {
    if (what >= 20 && what <= 31) {
      return what - 20 < world.f ? world.demand(what - 20) : NONE;
    }
    return switch (what) {
      case 0 -> world.f;
      case 1 -> world.lifts.size();
      case 2 -> world.parties.size();
      case 3, 4, 5 -> world.those(p -> p.how.ordinal() == what - 3).size();
      case 6 -> world.events.size();
      case 7 -> tape.length();
      case 8 -> world.tick;
      case 9 -> world.way;
      case 10 -> world.gap;
      default -> BAD;
    };
  }

  // ---- the host

  public int sheet(int sheet, int sort, int n) {
    if (out(sheet, 0, 3) || out(sort, -1, 1)) {
      return BAD;
    }
    if (sort != -1 && n > 40) {
      return BAD;
    }
    if (sort != -1 && n < 0) {
      return -14;
    }
    sheets[sheet] = sort == -1 ? null : sort == 0 ? new byte[n] : new int[n];
    return 1;
  }

  public int put(int sheet, int i, int v) {
    if (out(sheet, 0, 3)) {
      return BAD;
    }
    Object row = sheets[sheet];
    if (row == null) {
      return -11;
    }
    if (out(i, 0, size(row) - 1)) {
      return -12;
    }
    if (row instanceof byte[] bytes) {
      bytes[i] = (byte) v;
    } else {
      ((int[]) row)[i] = v;
    }
    return 1;
  }

  public int copy(int sheet, int i, int other, int j, int n) {
    if (out(sheet, 0, 3) || out(other, 0, 3)) {
      return BAD;
    }
    Object source = sheets[sheet];
    Object target = sheets[other];
    if (source == null || target == null) {
      return -11;
    }
    if (source.getClass() != target.getClass()) {
      return -13;
    }
    if (n < 0 || i < 0 || j < 0 || (long) i + n > size(source) || (long) j + n > size(target)) {
      return -12;
    }
    System.arraycopy(source, i, target, j, n);
    return n;
  }
}
