/** Promises 13 to 20: tick, ticks, park, demand, sweep, near, oldest, mean. */
final class TicksTest {
  private TicksTest() {}

  static void run() {
    tickByTick();
    paces();
    stays();
    lookStays();
    lookTurns();
    lookFromRest();
    lookNearest();
    neverTurnsWithRiders();
    allOrNothing();
    passed();
    boardsByDirection();
    givenAway();
    inAndOut();
    manyTicks();
    park();
    parkOnTheWay();
    parkOfWhom();
    demand();
    sweep();
    near();
    oldest();
    mean();
  }

  private static void state(LiftSweeps x, int car, int floor, int direction, int wait, int goes) {
    String at = "at " + x.count(8) + " car " + car;
    Check.due(at + " floor", x.told(car, 3), floor);
    Check.due(at + " direction", x.told(car, 4), direction);
    Check.due(at + " wait", x.told(car, 5), wait);
    Check.due(at + " goes", x.told(car, 6), goes);
  }

  private static void tickByTick() {
    Check.begin("promise 13: tick, a plain car's trip");
    LiftSweeps x = new LiftSweeps();
    x.call(2, 3, 1);
    int[][] due = {
      {0, 1, 2, 1}, {0, 1, 1, 1}, {1, 1, 2, 1}, {1, 1, 1, 1}, {2, 1, 1, 0},
      {2, 1, 2, 1}, {2, 1, 1, 1}, {3, 0, 1, 0}, {3, 0, 0, 0}, {3, 0, 0, 0},
    };
    for (int i = 0; i < due.length; i++) {
      Check.due("tick " + (i + 1), x.tick(), i == 7 ? 1 : 0);
      state(x, 0, due[i][0], due[i][1], due[i][2], due[i][3]);
      state(x, 1, 0, 0, 0, 0);
      Check.due("how it is", x.group(0, 4), i < 4 ? 0 : i < 7 ? 1 : 2);
    }
    Check.due("count(8)", x.count(8), 10);
    Check.due("waited", x.group(0, 6), 5);
    Check.due("event(0, 0)", x.event(0, 0), 2);
    Check.due("event(0, 3)", x.event(0, 3), 8);
    Check.due("event(1, 0)", x.event(1, 0), 1);
    Check.due("event(1, 3)", x.event(1, 3), 5);
  }

  private static int ticksTillThere(LiftSweeps x) {
    for (int n = 1; n < 99; n++) {
      if (x.tick() > 0) {
        return n;
      }
    }
    return -1;
  }

  private static void paces() {
    Check.begin("promise 13: tick, paces");
    int[] pace = {2, 1, 3, 2, 5, 2};
    int[] stay = {1, 1, 2, 1, 3, 4};
    for (int kind = 0; kind < 6; kind++) {
      LiftSweeps x = new LiftSweeps();
      x.car(0, kind, 3, 5);
      x.call(0, 4, 5);
      Check.due("kind " + kind, ticksTillThere(x), 1 + stay[kind] + 4 * pace[kind]);
    }
    LiftSweeps x = new LiftSweeps();
    x.car(0, 4, 0, 8);
    x.call(2, 4, 3);
    Check.due("a crane, empty at first", ticksTillThere(x), 1 + 2 * 3 + 3 + 2 * 4);
  }

  private static void stays() {
    Check.begin("promise 13: tick, stays behind those that leave");
    int[] stay = {1, 1, 2, 3, 3, 9};
    int[] pace = {2, 1, 3, 1, 3, 2};
    for (int kind = 0; kind < 6; kind++) {
      LiftSweeps x = new LiftSweeps();
      x.car(0, kind, 8, 4);
      x.call(0, 1, 1);
      ticksTillThere(x);
      Check.due("kind " + kind, x.told(0, 5), stay[kind]);
      Check.due("call", x.call(1, 0, 1), 1);
      x.give(1, 0);
      x.ticks(stay[kind] - 1);
      Check.due("it stays", x.group(1, 4), 0);
      x.tick();
      Check.due("then it boards", x.group(1, 4), 1);
      Check.due("and on", ticksTillThere(x), stay[kind] + pace[kind]);
    }
  }

  private static void lookStays() {
    Check.begin("promise 13: tick, an empty car keeps a good direction");
    LiftSweeps x = new LiftSweeps();
    x.call(1, 3, 1);
    x.call(6, 7, 1);
    x.call(2, 0, 1);
    x.ticks(3);
    Check.due("the first boards", x.group(0, 4), 1);
    x.ticks(5);
    state(x, 0, 3, 1, 1, 0);
    Check.due("it is there", x.group(0, 4), 2);
    x.tick();
    state(x, 0, 3, 1, 2, 1);
    x.ticks(6);
    state(x, 0, 6, 1, 1, 0);
    x.ticks(3);
    Check.due("there; none above, so down", x.group(1, 4), 2);
    state(x, 0, 7, 2, 1, 0);
    x.tick();
    state(x, 0, 7, 2, 2, 1);
  }

  private static void lookTurns() {
    Check.begin("promise 13: tick, a group here makes a direction good");
    LiftSweeps x = new LiftSweeps();
    x.call(0, 3, 1);
    x.call(3, 5, 1);
    x.call(3, 1, 1);
    x.ticks(8);
    Check.due("is there", x.group(0, 4), 2);
    Check.due("up is good by the one that goes up", x.group(1, 4), 1);
    Check.due("the other one stays behind", x.group(2, 4), 0);
    state(x, 0, 3, 1, 1, 0);
    x.ticks(5);
    Check.due("there on 5", x.group(1, 4), 2);
    state(x, 0, 5, 2, 1, 0);
    x.ticks(5);
    Check.due("boards on the way down", x.group(2, 4), 1);
    state(x, 0, 3, 2, 1, 0);
    x.ticks(5);
    Check.due("there on 1", x.group(2, 4), 2);
    state(x, 0, 1, 0, 1, 0);
    LiftSweeps y = new LiftSweeps();
    y.call(0, 3, 1);
    y.call(3, 1, 1);
    y.ticks(8);
    Check.due("up is not good, down is", y.group(1, 4), 1);
    state(y, 0, 3, 2, 1, 0);
  }

  private static void lookFromRest() {
    Check.begin("promise 13: tick, from rest: the least number that waits here");
    LiftSweeps x = new LiftSweeps();
    x.call(0, 3, 1);
    x.ticks(20);
    state(x, 0, 3, 0, 0, 0);
    x.call(4, 7, 1);
    x.call(3, 1, 1);
    x.call(3, 5, 1);
    x.tick();
    Check.due("the one that goes down", x.group(2, 4), 1);
    Check.due("not the one that goes up", x.group(3, 4), 0);
    state(x, 0, 3, 2, 1, 0);
  }

  private static void lookNearest() {
    Check.begin("promise 13: tick, from rest: towards the nearest stop");
    int[][] cases = {{1, 6, 2}, {2, 5, 1}, {0, 5, 1}, {2, 6, 2}, {0, 7, 2}};
    for (int[] c : cases) {
      LiftSweeps x = new LiftSweeps();
      x.call(0, 4, 1);
      x.ticks(20);
      x.car(1, 0, 0, 1);
      x.call(c[1], c[1] == 7 ? 0 : 7, 2);
      x.call(c[0], 7, 2);
      Check.due("both are car 0's", x.told(0, 12), 2);
      x.tick();
      boolean lower = 4 - c[0] <= c[1] - 4;
      Check.due(c[0] + " or " + c[1], x.told(0, 4), lower ? 2 : 1);
    }
    LiftSweeps x = new LiftSweeps();
    x.call(0, 4, 1);
    x.ticks(20);
    x.car(1, 0, 0, 1);
    x.call(6, 7, 2);
    x.call(2, 7, 2);
    x.tick();
    Check.due("of two the lower one", x.told(0, 4), 2);
  }

  private static void neverTurnsWithRiders() {
    Check.begin("promise 13: tick, never turning with riders");
    LiftSweeps x = new LiftSweeps();
    x.call(0, 7, 1);
    x.ticks(6);
    Check.due("floor", x.told(0, 3), 2);
    x.call(1, 0, 1);
    x.give(1, 0);
    x.call(2, 0, 1);
    x.give(2, 0);
    x.ticks(9);
    Check.due("none of them rides", x.group(1, 4) + x.group(2, 4), 0);
    Check.due("direction", x.told(0, 4), 1);
    x.tick();
    Check.due("there on 7", x.group(0, 4), 2);
    Check.due("then down", x.told(0, 4), 2);
  }

  private static void allOrNothing() {
    Check.begin("promise 13: tick, a group boards all or not at all");
    LiftSweeps x = new LiftSweeps();
    x.car(1, 0, 0, 1);
    x.call(0, 4, 3);
    x.call(0, 5, 2);
    x.call(0, 6, 1);
    x.tick();
    Check.due("rides", x.group(0, 4), 1);
    Check.due("no room for two", x.group(1, 4), 0);
    Check.due("just room for one", x.group(2, 4), 1);
    Check.due("told(0, 8)", x.told(0, 8), 4);
    x.tick();
    state(x, 0, 0, 1, 2, 1);
    x.ticks(7);
    Check.due("still 4", x.told(0, 8), 4);
    x.tick();
    Check.due("three are there", x.told(0, 8), 1);
    Check.due("stops", x.told(0, 9), 1 | 1 << 6);
    x.ticks(17);
    Check.due("not yet", x.group(1, 4), 0);
    x.tick();
    Check.due("it comes back for them", x.group(1, 4), 1);
    Check.due("passed", x.oldest(4), 1);
  }

  private static void passed() {
    Check.begin("promise 13: tick, passed");
    LiftSweeps x = new LiftSweeps();
    x.car(1, 0, 0, 1);
    x.call(0, 4, 3);
    x.call(0, 5, 2);
    x.call(0, 5, 4);
    x.call(1, 6, 1);
    x.tick();
    Check.due("nobody boarded behind", x.oldest(4), 0);
    x.ticks(3);
    Check.due("those on another floor were not passed", x.oldest(4), 0);
    Check.due("it boards", x.group(3, 4), 1);
    x.build(8, 1);
    x.call(0, 4, 3);
    x.call(0, 5, 2);
    x.call(0, 5, 4);
    x.call(0, 3, 1);
    x.tick();
    Check.due("one more, though it passed two", x.oldest(4), 1);
    x.build(8, 1);
    x.call(0, 4, 2);
    x.call(0, 5, 4);
    x.call(0, 5, 1);
    x.call(0, 3, 1);
    x.tick();
    Check.due("each of two", x.oldest(4), 2);
    x.build(8, 1);
    x.call(0, 1, 1);
    x.ticks(10);
    x.call(1, 0, 1);
    x.call(1, 3, 1);
    x.call(1, 0, 1);
    x.tick();
    Check.due("the one that goes the other way is not passed", x.oldest(4), 0);
    Check.due("group(2, 4)", x.group(2, 4), 0);
    Check.due("group(3, 4)", x.group(3, 4), 1);
    x.build(8, 2);
    x.call(0, 4, 4);
    x.call(0, 4, 4);
    x.way(1);
    x.call(0, 4, 4);
    x.tick();
    Check.due("another car's is not passed", x.oldest(4), 0);
    Check.due("group(2, 3)", x.group(2, 3), 1);
    Check.due("group(2, 4)", x.group(2, 4), 1);
  }

  private static void boardsByDirection() {
    Check.begin("promise 13: tick, riders leave first, by numbers");
    LiftSweeps x = new LiftSweeps();
    x.call(0, 3, 4);
    x.call(3, 5, 4);
    x.ticks(8);
    Check.due("there", x.group(0, 4), 2);
    Check.due("boards in the same tick", x.group(1, 4), 1);
    Check.due("event(1, 0)", x.event(1, 0), 2);
    Check.due("event(0, 0)", x.event(0, 0), 1);
    Check.due("wait", x.told(0, 5), 1);
    x.build(8, 2);
    x.call(0, 3, 1);
    x.call(0, 3, 1);
    x.ticks(7);
    Check.due("two by one tick", x.tick(), 2);
    Check.due("event(1, 1)", x.event(1, 1), 0);
    Check.due("event(0, 1)", x.event(0, 1), 1);
  }

  private static void givenAway() {
    Check.begin("promise 13: tick, a car whose stop is gone");
    LiftSweeps x = new LiftSweeps();
    x.call(7, 0, 1);
    x.tick();
    x.give(0, 1);
    state(x, 0, 0, 1, 2, 1);
    x.tick();
    state(x, 0, 0, 1, 1, 1);
    x.tick();
    state(x, 0, 1, 0, 0, 0);
    x.ticks(50);
    state(x, 0, 1, 0, 0, 0);
    Check.due("the other one did it", x.group(0, 4), 2);
  }

  private static void inAndOut() {
    Check.begin("promise 13: tick, cars by numbers");
    LiftSweeps x = new LiftSweeps();
    x.call(0, 2, 1);
    x.call(0, 2, 1);
    x.give(0, 1);
    Check.due("tick()", x.tick(), 0);
    Check.due("car 0 boards its own first", x.event(1, 1), 1);
    Check.due("then car 1", x.event(0, 1), 0);
    Check.due("ticks(4)", x.ticks(4), 0);
    Check.due("both are there by one tick", x.tick(), 2);
    Check.due("event(1, 2)", x.event(1, 2), 0);
    Check.due("event(0, 2)", x.event(0, 2), 1);
  }

  private static void manyTicks() {
    Check.begin("promise 14: ticks");
    LiftSweeps x = new LiftSweeps();
    x.call(0, 2, 1);
    x.call(0, 4, 1);
    x.call(0, 7, 1);
    Check.due("ticks(0)", x.ticks(0), 0);
    Check.due("count(8)", x.count(8), 0);
    Check.due("ticks(5)", x.ticks(5), 0);
    Check.due("ticks(1)", x.ticks(1), 1);
    Check.due("ticks(5)", x.ticks(5), 1);
    Check.due("ticks(99)", x.ticks(99), 1);
    Check.due("count(8)", x.count(8), 110);
    Check.due("ticks(100)", x.ticks(100), -2);
    Check.due("ticks(-1)", x.ticks(-1), -2);
    Check.due("ticks(MAX)", x.ticks(Integer.MAX_VALUE), -2);
    Check.due("ticks(MIN)", x.ticks(Integer.MIN_VALUE), -2);
    Check.due("count(8)", x.count(8), 110);
    x.build(8, 2);
    x.call(0, 2, 1);
    x.call(0, 4, 1);
    Check.due("all together", x.ticks(99), 2);
  }

  private static void park() {
    Check.begin("promise 15: park");
    LiftSweeps x = new LiftSweeps();
    x.build(10, 4);
    Check.due("no demand", x.park(), 0);
    x.call(6, 0, 1);
    x.call(3, 0, 1);
    x.call(6, 0, 1);
    x.ticks(90);
    Check.due("all are there", x.count(5), 3);
    Check.due("two floors have demand", x.park(), 2);
    Check.due("the greatest", x.told(0, 7), 6);
    Check.due("the next", x.told(1, 7), 3);
    Check.due("none", x.told(2, 7), -1);
    Check.due("none", x.told(3, 7), -1);
    Check.due("those with a park don't count: 2 and 3 are for 6 and 3", x.park(), 2);
    Check.due("told(2, 7)", x.told(2, 7), 6);
    Check.due("told(3, 7)", x.told(3, 7), 3);
    Check.due("nobody is left", x.park(), 0);
    Check.due("stops", x.told(2, 9), 1 << 6);
    Check.due("own groups", x.told(2, 12), 0);
    x.ticks(40);
    Check.due("told(0, 3)", x.told(0, 3), 6);
    Check.due("told(1, 3)", x.told(1, 3), 3);
    Check.due("told(0, 7)", x.told(0, 7), -1);
    Check.due("those that are there need no park", x.park(), 0);
    Check.due("0 is there", x.told(0, 7), -1);
    Check.due("1 is there", x.told(1, 7), -1);
    Check.due("2 is for the third floor by demand", x.told(2, 7), -1);
    x.build(2, 4);
    x.call(1, 0, 1);
    x.ticks(20);
    Check.due("more cars than floors", x.park(), 1);
    Check.due("told(0, 7)", x.told(0, 7), 1);
    Check.due("told(1, 7)", x.told(1, 7), -1);
    Check.due("told(2, 7)", x.told(2, 7), -1);
  }

  private static void parkOnTheWay() {
    Check.begin("promise 15: park, on the way there");
    LiftSweeps x = new LiftSweeps();
    x.call(2, 0, 1);
    x.ticks(40);
    state(x, 0, 0, 0, 0, 0);
    Check.due("park()", x.park(), 1);
    x.tick();
    state(x, 0, 0, 1, 2, 1);
    x.ticks(3);
    Check.due("told(0, 7)", x.told(0, 7), 2);
    x.tick();
    state(x, 0, 2, 0, 0, 0);
    Check.due("told(0, 7)", x.told(0, 7), -1);
    Check.due("done() doesn't wait for parks", x.done(0), 0);
  }

  private static void parkOfWhom() {
    Check.begin("promise 15: park, which cars");
    LiftSweeps x = new LiftSweeps();
    x.build(8, 4);
    x.call(5, 0, 1);
    x.ticks(3);
    x.give(0, 1);
    state(x, 0, 1, 1, 2, 1);
    Check.due("0 goes, 1 has a group, 2 and 3 may be", x.park(), 1);
    Check.due("told(0, 7)", x.told(0, 7), -1);
    Check.due("told(1, 7)", x.told(1, 7), -1);
    Check.due("told(2, 7)", x.told(2, 7), 5);
    Check.due("told(3, 7)", x.told(3, 7), -1);
    x.build(8, 2);
    x.call(3, 0, 1);
    x.call(1, 0, 1);
    x.ticks(40);
    x.call(1, 0, 1);
    x.ticks(40);
    x.call(3, 0, 1);
    x.give(3, 1);
    x.ticks(40);
    Check.due("of like ones the lower", x.park(), 2);
    Check.due("told(0, 7)", x.told(0, 7), 1);
    Check.due("told(1, 7)", x.told(1, 7), 3);
    x.build(8, 1);
    x.call(0, 1, 1);
    x.ticks(4);
    Check.due("a car that stays may be parked", x.told(0, 5), 1);
    Check.due("park()", x.park(), 1);
    Check.due("told(0, 7)", x.told(0, 7), 0);
    x.build(8, 2);
    x.call(0, 6, 1);
    x.call(0, 6, 1);
    x.call(3, 6, 1);
    x.ticks(60);
    Check.due("floor 0, too, has its rank", x.park(), 2);
    Check.due("told(0, 7)", x.told(0, 7), 0);
    Check.due("told(1, 7)", x.told(1, 7), 3);
  }

  private static void demand() {
    Check.begin("promise 16: demand");
    LiftSweeps x = new LiftSweeps();
    Check.due("nobody has called", x.demand(0, 0), -3);
    Check.due("demand(8, 0)", x.demand(8, 0), -2);
    Check.due("demand(-1, 0)", x.demand(-1, 0), -2);
    Check.due("demand(0, 2)", x.demand(0, 2), -2);
    Check.due("demand(0, -1)", x.demand(0, -1), -2);
    x.call(1, 0, 1);
    x.call(1, 0, 1);
    x.call(1, 0, 1);
    x.call(2, 0, 1);
    x.call(2, 0, 1);
    x.call(4, 0, 1);
    int[][] due = {{0, 1}, {1, 2}, {1, 3}, {0, 1}, {1, 6}};
    for (int floor = 0; floor < due.length; floor++) {
      Check.due("demand(" + floor + ", 0)", x.demand(floor, 0), due[floor][0]);
      Check.due("demand(" + floor + ", 1)", x.demand(floor, 1), due[floor][1]);
    }
    x.call(1, 0, 9);
    x.ticks(99);
    Check.due("calls stay, behind all, too", x.demand(1, 1), 2);
    Check.due("demand(MAX, 0)", x.demand(Integer.MAX_VALUE, 0), -2);
  }

  private static void sweep() {
    Check.begin("promise 17: sweep");
    LiftSweeps x = new LiftSweeps();
    x.call(0, 4, 1);
    Check.due("where it is", x.sweep(0, 0), 0);
    x.ticks(20);
    x.car(1, 0, 0, 1);
    for (int floor : new int[] {7, 1, 4, 5, 2}) {
      x.call(floor, floor == 0 ? 1 : 0, 2);
    }
    int[] up = {4, 5, 7, 2, 1};
    Check.due("sweep(0, -1)", x.sweep(0, -1), 5);
    for (int i = 0; i < 5; i++) {
      Check.due("up at first, " + i, x.sweep(0, i), up[i]);
    }
    x.tick();
    Check.due("one boards and goes down", x.told(0, 4), 2);
    int[] down = {2, 1, 0, 5, 7};
    Check.due("sweep(0, -1)", x.sweep(0, -1), 5);
    for (int i = 0; i < 5; i++) {
      Check.due("down, " + i, x.sweep(0, i), down[i]);
    }
    Check.due("sweep(0, 5)", x.sweep(0, 5), -12);
    Check.due("sweep(0, -2)", x.sweep(0, -2), -12);
    Check.due("sweep(0, MAX)", x.sweep(0, Integer.MAX_VALUE), -12);
    Check.due("sweep(0, MIN)", x.sweep(0, Integer.MIN_VALUE), -12);
    Check.due("nobody", x.sweep(1, -1), 0);
    Check.due("sweep(1, 0)", x.sweep(1, 0), -12);
    Check.due("sweep(2, -1)", x.sweep(2, -1), -2);
    Check.due("sweep(-1, 99)", x.sweep(-1, 99), -2);
  }

  private static void near() {
    Check.begin("promise 18: near");
    LiftSweeps x = new LiftSweeps();
    x.build(12, 2);
    x.call(0, 1, 1);
    x.call(4, 1, 1);
    x.call(11, 1, 1);
    x.call(3, 1, 1);
    x.call(9, 1, 1);
    Check.due("all are car 0's", x.told(0, 12), 5);
    Check.due("none of car 1's", x.near(0, 1, 11), 0);
    x.give(3, 1);
    x.give(4, 1);
    int[] due = {0, 1, 2, 3, 3, 4, 4, 4, 5, 6, 6, 6};
    for (int n = 0; n < 12; n++) {
      Check.due("near(0, 1, " + n + ")", x.near(0, 1, n), due[n]);
      Check.due("near(1, 0, " + n + ")", x.near(1, 0, n), due[n]);
    }
    Check.due("each with itself", x.near(0, 0, 0), 3);
    Check.due("both ways", x.near(0, 0, 4), 5);
    Check.due("all with all", x.near(0, 0, 11), 9);
    int[][] wrong = {{-1, 0, 0}, {2, 0, 0}, {0, -1, 0}, {0, 2, 0}, {0, 0, -1}, {0, 0, 12},
        {0, 0, Integer.MAX_VALUE}};
    for (int[] w : wrong) {
      Check.due("near(" + w[0] + ", " + w[1] + ", " + w[2] + ")", x.near(w[0], w[1], w[2]), -2);
    }
  }

  private static void oldest() {
    Check.begin("promise 19: oldest");
    LiftSweeps x = new LiftSweeps();
    for (int what = 0; what < 4; what++) {
      Check.due("oldest(" + what + ")", x.oldest(what), -1);
    }
    Check.due("oldest(4)", x.oldest(4), 0);
    Check.due("oldest(5)", x.oldest(5), -2);
    Check.due("oldest(-1)", x.oldest(-1), -2);
    x.call(0, 3, 1);
    x.call(1, 3, 1);
    x.call(6, 3, 1);
    x.call(0, 2, 1);
    Check.due("of those that wait", x.oldest(0), 0);
    Check.due("oldest(1)", x.oldest(1), 0);
    x.tick();
    Check.due("the first rides", x.oldest(0), 1);
    Check.due("oldest(1)", x.oldest(1), 1);
    Check.due("of like ones the least", x.oldest(2), 0);
    Check.due("oldest(3)", x.oldest(3), 1);
    x.ticks(3);
    Check.due("the second rides", x.oldest(0), 2);
    Check.due("oldest(1)", x.oldest(1), 4);
    Check.due("it waited longest", x.oldest(2), 1);
    Check.due("oldest(3)", x.oldest(3), 4);
    x.ticks(60);
    Check.due("nobody waits", x.oldest(0), -1);
    Check.due("oldest(1)", x.oldest(1), -1);
    Check.due("oldest(2)", x.oldest(2), 2);
    Check.due("MAX", x.oldest(Integer.MAX_VALUE), -2);
  }

  private static void mean() {
    Check.begin("promise 20: mean");
    LiftSweeps x = new LiftSweeps();
    Check.due("mean(0)", x.mean(0), -3);
    Check.due("mean(2)", x.mean(2), -2);
    Check.due("mean(-1)", x.mean(-1), -2);
    x.call(0, 3, 4);
    x.ticks(9);
    x.build(8, 2);
    Check.due("after build", x.mean(0), -3);
    x.call(0, 3, 4);
    x.call(1, 3, 1);
    x.call(5, 7, 1);
    Check.due("nobody has boarded", x.mean(1), -3);
    x.tick();
    Check.due("1 / 1", x.mean(0), 1);
    Check.due("1 / 1", x.mean(1), 1);
    x.ticks(15);
    int waited = x.group(0, 6) + x.group(2, 6);
    Check.due("the third boards", x.group(2, 4), 1);
    Check.due("the second did not", x.group(1, 4), 0);
    Check.due("waited", waited, 1 + 13);
    Check.due("14 / 2", x.mean(0), 7);
    Check.due("14 / 2", x.mean(1), 1);
    x.ticks(40);
    Check.due("all are there", x.count(5), 3);
    int all = x.group(0, 6) + x.group(1, 6) + x.group(2, 6);
    Check.due("in lowest terms", x.mean(0) * 3, all % 3 == 0 ? all : all * 3);
    Check.due("in lowest terms", x.mean(1), all % 3 == 0 ? 1 : 3);
  }
}
