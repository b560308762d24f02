/** Promises 6 to 12: call, group, way, gap, cost, give, regive. */
final class CallsTest {
  private CallsTest() {}

  static void run() {
    call();
    callRefusals();
    callFull();
    callToCheapest();
    callEndsPark();
    group();
    wayAndGap();
    costNear();
    costLight();
    costSoon();
    costRefusals();
    give();
    giveRefusals();
    giveEndsPark();
    regive();
    regiveGap();
    regiveTwiceAtMost();
    regiveOneByOne();
    regiveFirstOfLike();
  }

  private static void call() {
    Check.begin("promise 6: call");
    LiftSweeps x = new LiftSweeps();
    Check.due("call(0, 7, 1)", x.call(0, 7, 1), 0);
    Check.due("call(7, 0, 4)", x.call(7, 0, 4), 1);
    Check.due("count(2)", x.count(2), 2);
    Check.due("count(3)", x.count(3), 2);
    Check.due("count(20)", x.count(20), 1);
    Check.due("count(27)", x.count(27), 1);
    Check.due("event(0, 0)", x.event(0, 0), 0);
    Check.due("event(0, 1)", x.event(0, 1), 1);
  }

  private static void callRefusals() {
    Check.begin("promise 6: call, refusals");
    LiftSweeps x = new LiftSweeps();
    x.car(0, 0, 0, 3);
    int[][] wrong = {{-1, 2, 1}, {8, 2, 1}, {2, -1, 1}, {2, 8, 1}, {3, 3, 1}, {1, 2, 0},
        {1, 2, 9}, {1, 2, -1}, {Integer.MAX_VALUE, 1, 1}, {1, Integer.MIN_VALUE, 1},
        {1, 2, Integer.MAX_VALUE}, {4, 4, 8}, {8, 0, 8}};
    for (int[] w : wrong) {
      Check.due("call(" + w[0] + ", " + w[1] + ", " + w[2] + ")", x.call(w[0], w[1], w[2]), -2);
    }
    Check.due("no car has room", x.call(1, 2, 5), -3);
    Check.due("no car has room", x.call(1, 2, 8), -3);
    Check.due("one has room", x.call(1, 2, 4), 0);
    Check.due("that one", x.group(0, 3), 1);
    Check.due("refused ones are no groups", x.count(2), 1);
    Check.due("nor is there a demand", x.count(22), 0);
    Check.due("nor are there events", x.count(6), 1);
  }

  private static void callFull() {
    Check.begin("promise 6: call, full");
    LiftSweeps x = new LiftSweeps();
    for (int i = 0; i < 12; i++) {
      Check.due("call " + i, x.call(i % 2, 2, 1), i);
    }
    Check.due("12 wait", x.call(0, 1, 1), -4);
    Check.due("STATE is first", x.call(0, 1, 5), -3);
    Check.due("BAD is first", x.call(0, 0, 1), -2);
    x.tick();
    Check.due("some ride", x.count(4) > 0 ? 1 : 0, 1);
    Check.due("12 wait or ride", x.call(0, 1, 1), -4);
    Check.due("none is there", x.count(5), 0);
    x.ticks(99);
    Check.due("all are there", x.count(5), 12);
    for (int i = 12; i < 40; i++) {
      Check.due("call " + i, x.call(0, 1, 1), i);
      x.ticks(20);
    }
    Check.due("all are there", x.count(5), 40);
    Check.due("40 have called", x.call(0, 1, 1), -4);
    Check.due("STATE is first", x.call(0, 1, 5), -3);
    Check.due("count(2)", x.count(2), 40);
    Check.due("demand", x.count(20), 34);
    x.build(8, 2);
    Check.due("after build", x.call(0, 1, 1), 0);
  }

  private static void callToCheapest() {
    Check.begin("promise 6: call, to the car of least cost");
    LiftSweeps x = new LiftSweeps();
    x.build(12, 3);
    x.call(8, 9, 1);
    Check.due("the first of like ones", x.group(0, 3), 0);
    x.ticks(9);
    Check.due("it goes up on floor 4", x.told(0, 3), 4);
    Check.due("from 6: 2 for car 0", x.group(x.call(6, 7, 1), 3), 0);
    Check.due("from 3: 1 and 24 for car 0", x.group(x.call(3, 7, 1), 3), 1);
    Check.due("from 4: 0 for car 0", x.group(x.call(4, 0, 1), 3), 0);
    x.way(1);
    Check.due("light: car 2 has nobody", x.group(x.call(6, 7, 1), 3), 2);
    x.way(2);
    Check.due("soon: car 0 is on its way", x.group(x.call(5, 7, 1), 3), 0);
    x.car(0, 0, 0, 1);
    x.way(0);
    Check.due("too big for none", x.group(x.call(5, 7, 4), 3), 0);
    x.build(8, 2);
    x.car(0, 0, 0, 1);
    Check.due("too big for the first", x.group(x.call(0, 7, 2), 3), 1);
  }

  private static void callEndsPark() {
    Check.begin("promise 6: call, a park is none any more");
    LiftSweeps x = new LiftSweeps();
    x.call(5, 0, 1);
    x.call(3, 0, 1);
    x.ticks(60);
    Check.due("all are there", x.count(5), 2);
    Check.due("park()", x.park(), 2);
    Check.due("told(0, 7)", x.told(0, 7), 3);
    Check.due("told(1, 7)", x.told(1, 7), 5);
    Check.due("call(1, 2, 1)", x.call(1, 2, 1), 2);
    Check.due("the car that got it", x.told(0, 7), -1);
    Check.due("the other one", x.told(1, 7), 5);
    Check.due("call(9, 2, 1)", x.call(9, 2, 1), -2);
    Check.due("the other one", x.told(1, 7), 5);
  }

  private static void group() {
    Check.begin("promise 7: group");
    LiftSweeps x = new LiftSweeps();
    x.ticks(7);
    x.call(1, 3, 4);
    x.call(1, 0, 3);
    x.give(1, 1);
    int[] due = {1, 3, 4, 0, 0, 7, 0, 0};
    int[] other = {1, 0, 3, 1, 0, 7, 0, 1};
    for (int what = 0; what < 8; what++) {
      Check.due("group(0, " + what + ")", x.group(0, what), due[what]);
      Check.due("group(1, " + what + ")", x.group(1, what), other[what]);
    }
    x.ticks(2);
    Check.due("waits two", x.group(0, 6), 2);
    x.tick();
    Check.due("rides", x.group(0, 4), 1);
    Check.due("waited three", x.group(0, 6), 3);
    x.ticks(4);
    Check.due("rides", x.group(0, 4), 1);
    x.tick();
    Check.due("is there", x.group(0, 4), 2);
    Check.due("waited three", x.group(0, 6), 3);
    Check.due("its car stays told", x.group(0, 3), 0);
    Check.due("called", x.group(0, 5), 7);
    int[][] wrong = {{-1, 0}, {2, 0}, {0, -1}, {0, 8}, {40, 0}, {Integer.MAX_VALUE, 6},
        {0, Integer.MIN_VALUE}};
    for (int[] w : wrong) {
      Check.due("group(" + w[0] + ", " + w[1] + ")", x.group(w[0], w[1]), -2);
    }
  }

  private static void wayAndGap() {
    Check.begin("promise 8: way");
    LiftSweeps x = new LiftSweeps();
    Check.due("way(2)", x.way(2), 0);
    Check.due("way(1)", x.way(1), 2);
    Check.due("way(3)", x.way(3), -2);
    Check.due("way(-1)", x.way(-1), -2);
    Check.due("way(MIN)", x.way(Integer.MIN_VALUE), -2);
    Check.due("way(0)", x.way(0), 1);
    Check.due("count(9)", x.count(9), 0);
    Check.begin("promise 9: gap");
    Check.due("gap(1)", x.gap(1), 3);
    Check.due("gap(20)", x.gap(20), 1);
    Check.due("gap(21)", x.gap(21), -2);
    Check.due("gap(0)", x.gap(0), -2);
    Check.due("gap(-1)", x.gap(-1), -2);
    Check.due("gap(MAX)", x.gap(Integer.MAX_VALUE), -2);
    Check.due("count(10)", x.count(10), 20);
    Check.due("gap(7)", x.gap(7), 20);
  }

  private static void costNear() {
    Check.begin("promise 10: cost, near");
    LiftSweeps x = new LiftSweeps();
    x.build(10, 2);
    x.call(4, 6, 1);
    x.call(7, 1, 1);
    x.call(2, 3, 1);
    x.call(9, 3, 3);
    Check.due("from where it stands", x.cost(0, 0), 4);
    Check.due("cost(1, 1)", x.cost(1, 1), 7);
    x.tick();
    Check.due("the others lie its way", x.cost(2, 0), 2);
    x.ticks(4);
    Check.due("it is on floor 2", x.told(0, 3), 2);
    x.ticks(6);
    Check.due("it is on floor 4", x.told(0, 3), 4);
    Check.due("it goes up", x.told(0, 4), 1);
    Check.due("7 lies its way", x.cost(1, 0), 3);
    Check.due("call(4, 0, 1)", x.call(4, 0, 1), 4);
    Check.due("where it is is not the other way", x.cost(4, 0), 0);
    Check.due("call(3, 0, 1)", x.call(3, 0, 1), 5);
    Check.due("3 lies the other way", x.cost(5, 0), 1 + 20);
    Check.due("for the car that stands", x.cost(5, 1), 3);
    x.ticks(20);
    Check.due("it goes down", x.told(0, 4), 2);
    Check.due("on floor 6", x.told(0, 3), 6);
    Check.due("call(7, 0, 1)", x.call(7, 0, 1), 6);
    Check.due("7 lies the other way", x.cost(6, 0), 1 + 20);
    Check.due("4 lies its way", x.cost(4, 0), 2);
    Check.due("call(6, 0, 1)", x.call(6, 0, 1), 7);
    Check.due("where it is is not the other way", x.cost(7, 0), 0);
  }

  private static void costLight() {
    Check.begin("promise 10: cost, light");
    LiftSweeps x = new LiftSweeps();
    x.call(0, 5, 3);
    x.call(3, 5, 2);
    x.call(6, 5, 1);
    x.way(1);
    Check.due("not this group", x.cost(1, 0), 10 * 4 + 3);
    Check.due("cost(1, 1)", x.cost(1, 1), 3);
    x.tick();
    Check.due("three ride", x.told(0, 8), 3);
    Check.due("riders count", x.cost(1, 0), 10 * 4 + 3);
    x.give(2, 1);
    Check.due("cost(1, 0)", x.cost(1, 0), 10 * 3 + 3);
    Check.due("cost(1, 1)", x.cost(1, 1), 10 * 1 + 3);
    x.ticks(11);
    Check.due("three are there", x.group(0, 4), 2);
    Check.due("they don't count any more", x.cost(2, 0), 10 * 2 + 1 + 16);
    x.way(0);
    x.build(8, 2);
    x.call(5, 0, 1);
    x.call(1, 0, 1);
    x.ticks(9);
    x.way(1);
    Check.due("the other way, too", x.cost(1, 0), 10 * 1 + 3 + 16);
  }

  private static void costSoon() {
    Check.begin("promise 10: cost, soon");
    LiftSweeps x = new LiftSweeps();
    x.way(2);
    x.call(0, 3, 1);
    Check.due("it boards by the next tick", x.cost(0, 0), 1);
    x.call(3, 0, 1);
    Check.due("1 to board, 1 to stay, 3 floors", x.cost(1, 0), 2 + 3 * 2);
    Check.due("3 floors and one tick", x.cost(1, 1), 1 + 3 * 2);
    Check.due("the other car it is", x.group(1, 3), 1);
    x.car(1, 1, 0, 4);
    Check.due("it has an own group", x.told(1, 0), 0);
    x.ticks(2);
    Check.due("as time goes", x.cost(1, 1), 5);
    Check.due("thinking changes nothing", x.count(8), 2);
    Check.begin("promise 10: cost, soon, 120 at most");
    x.build(12, 1);
    x.car(0, 4, 0, 8);
    x.way(2);
    x.call(0, 11, 8);
    x.call(0, 11, 8);
    Check.due("77 and 33 and stays", x.cost(1, 0), 1 + 3 + 77 + 3 + 33);
    x.call(0, 11, 8);
    Check.due("cost(2, 0)", x.cost(2, 0), 120);
    Check.due("would(2, 0, 0)", x.would(2, 0, 0), 233);
    x.call(0, 1, 8);
    Check.due("cost(3, 0)", x.cost(3, 0), 120);
    x.tick();
    Check.due("cost(1, 0)", x.cost(1, 0), 116);
  }

  private static void costRefusals() {
    Check.begin("promise 10: cost, refusals");
    LiftSweeps x = new LiftSweeps();
    x.car(1, 0, 0, 2);
    x.call(0, 3, 3);
    for (int way = 0; way < 3; way++) {
      x.way(way);
      Check.due("too big, way " + way, x.cost(0, 1), 999);
    }
    int[][] wrong = {{-1, 0}, {1, 0}, {0, -1}, {0, 2}, {40, 0}, {Integer.MAX_VALUE, 0}};
    for (int[] w : wrong) {
      Check.due("cost(" + w[0] + ", " + w[1] + ")", x.cost(w[0], w[1]), -2);
    }
    x.tick();
    Check.due("it rides", x.cost(0, 0), -3);
    Check.due("BAD is first", x.cost(0, 2), -2);
    x.ticks(20);
    Check.due("it is there", x.cost(0, 0), -3);
  }

  private static void give() {
    Check.begin("promise 11: give");
    LiftSweeps x = new LiftSweeps();
    x.call(3, 6, 2);
    x.ticks(2);
    Check.due("give(0, 1)", x.give(0, 1), 1);
    Check.due("group(0, 3)", x.group(0, 3), 1);
    Check.due("told(0, 12)", x.told(0, 12), 0);
    Check.due("told(1, 12)", x.told(1, 12), 1);
    Check.due("event(0, 0)", x.event(0, 0), 3);
    Check.due("event(0, 1)", x.event(0, 1), 0);
    Check.due("event(0, 2)", x.event(0, 2), 1);
    Check.due("event(0, 3)", x.event(0, 3), 2);
    Check.due("the first car goes", x.told(0, 6), 1);
    x.tick();
    Check.due("one floor further", x.told(0, 3), 1);
    Check.due("and has no direction then", x.told(0, 4), 0);
    Check.due("give(0, 0)", x.give(0, 0), 2);
    Check.due("group(0, 7)", x.group(0, 7), 2);
    x.ticks(5);
    Check.due("it boards", x.group(0, 4), 1);
  }

  private static void giveRefusals() {
    Check.begin("promise 11: give, refusals");
    LiftSweeps x = new LiftSweeps();
    x.build(8, 3);
    x.car(2, 0, 0, 2);
    x.call(3, 6, 4);
    Check.due("its own", x.give(0, 0), -3);
    Check.due("no room", x.give(0, 2), -3);
    Check.due("give(0, 1)", x.give(0, 1), 1);
    Check.due("give(0, 0)", x.give(0, 0), 2);
    Check.due("twice", x.give(0, 1), -3);
    Check.due("it stays", x.group(0, 3), 0);
    Check.due("group(0, 7)", x.group(0, 7), 2);
    Check.due("events", x.count(6), 3);
    int[][] wrong = {{-1, 0}, {1, 0}, {0, -1}, {0, 3}, {Integer.MIN_VALUE, 0}};
    for (int[] w : wrong) {
      Check.due("give(" + w[0] + ", " + w[1] + ")", x.give(w[0], w[1]), -2);
    }
    Check.due("call(0, 7, 1)", x.call(0, 7, 1), 1);
    x.tick();
    Check.due("it rides", x.group(1, 4), 1);
    Check.due("give(1, 1)", x.give(1, 1), -3);
    x.ticks(40);
    Check.due("it is there", x.give(1, 1), -3);
  }

  private static void giveEndsPark() {
    Check.begin("promise 11: give, a park is none any more");
    LiftSweeps x = new LiftSweeps();
    x.call(3, 0, 1);
    x.ticks(40);
    x.call(2, 0, 1);
    x.give(1, 1);
    x.call(5, 0, 1);
    x.call(5, 1, 1);
    Check.due("car 0 has two", x.told(0, 12), 2);
    x.ticks(12);
    Check.due("car 1 has none", x.told(1, 12), 0);
    Check.due("park()", x.park(), 1);
    Check.due("told(1, 7)", x.told(1, 7), 5);
    x.call(4, 0, 1);
    Check.due("it is car 0's", x.group(4, 3), 0);
    Check.due("give(4, 1)", x.give(4, 1), 1);
    Check.due("told(1, 7)", x.told(1, 7), -1);
  }

  private static void regive() {
    Check.begin("promise 12: regive");
    LiftSweeps x = new LiftSweeps();
    Check.due("nobody", x.regive(), 0);
    x.call(2, 3, 1);
    x.call(4, 5, 3);
    x.call(6, 7, 2);
    Check.due("near: all cost alike", x.regive(), 0);
    x.way(1);
    Check.due("light", x.regive(), 2);
    Check.due("52 here, 2 there", x.group(0, 3), 1);
    Check.due("24 here, 14 there", x.group(1, 3), 1);
    Check.due("6 here, 46 there", x.group(2, 3), 0);
    Check.due("group(0, 7)", x.group(0, 7), 1);
    Check.due("group(2, 7)", x.group(2, 7), 0);
    Check.due("event(1, 0)", x.event(1, 0), 3);
    Check.due("event(1, 1)", x.event(1, 1), 0);
    Check.due("event(0, 0)", x.event(0, 0), 3);
    Check.due("event(0, 1)", x.event(0, 1), 1);
    Check.due("event(0, 2)", x.event(0, 2), 1);
    Check.due("32 there now, 22 here", x.regive(), 1);
    Check.due("group(0, 3)", x.group(0, 3), 0);
    Check.due("group(0, 7)", x.group(0, 7), 2);
    Check.due("nothing more to win", x.regive(), 0);
  }

  private static void regiveGap() {
    Check.begin("promise 12: regive, the gap");
    for (int gap = 1; gap <= 20; gap++) {
      LiftSweeps x = new LiftSweeps();
      x.way(2);
      x.gap(gap);
      x.car(0, 2, 0, 4);
      x.car(1, 1, 0, 4);
      x.call(5, 0, 1);
      x.give(0, 0);
      Check.due("it costs 16", x.cost(0, 0), 16);
      Check.due("there it costs 6", x.cost(0, 1), 6);
      Check.due("regive at " + gap, x.regive(), gap <= 10 ? 1 : 0);
      Check.due("its car", x.group(0, 3), gap <= 10 ? 1 : 0);
    }
  }

  private static void regiveTwiceAtMost() {
    Check.begin("promise 12: regive, twice at most, not riders");
    LiftSweeps x = new LiftSweeps();
    x.car(1, 1, 0, 4);
    x.way(2);
    x.call(7, 0, 1);
    Check.due("the faster one", x.group(0, 3), 1);
    Check.due("give(0, 0)", x.give(0, 0), 1);
    Check.due("regive()", x.regive(), 1);
    Check.due("group(0, 3)", x.group(0, 3), 1);
    Check.due("group(0, 7)", x.group(0, 7), 2);
    x.call(6, 0, 1);
    Check.due("give(1, 0)", x.give(1, 0), 1);
    Check.due("give(1, 1)", x.give(1, 1), 2);
    x.way(1);
    x.gap(1);
    Check.due("16 here, 6 there, but it was given twice", x.cost(1, 1) - x.cost(1, 0), 10);
    Check.due("regive()", x.regive(), 0);
    x.way(0);
    x.build(8, 2);
    x.call(0, 7, 1);
    x.call(0, 6, 1);
    x.way(1);
    x.tick();
    Check.due("both ride", x.told(0, 8), 2);
    Check.due("riders stay", x.regive(), 0);
  }

  private static void regiveOneByOne() {
    Check.begin("promise 12: regive, behind the earlier ones");
    LiftSweeps x = new LiftSweeps();
    x.call(0, 1, 2);
    x.call(0, 2, 1);
    x.call(0, 3, 1);
    x.way(1);
    x.gap(20);
    // Group 0 costs 20 here and 0 there; then the others cost less here.
    Check.due("regive()", x.regive(), 1);
    Check.due("group(0, 3)", x.group(0, 3), 1);
    Check.due("group(1, 3)", x.group(1, 3), 0);
    Check.due("group(2, 3)", x.group(2, 3), 0);
  }

  private static void regiveFirstOfLike() {
    Check.begin("promise 12: regive, of like ones the first");
    LiftSweeps x = new LiftSweeps();
    x.build(8, 4);
    x.call(0, 1, 2);
    x.call(0, 2, 1);
    x.car(1, 0, 0, 1);
    x.way(1);
    Check.due("cost(0, 1)", x.cost(0, 1), 999);
    Check.due("regive()", x.regive(), 1);
    Check.due("group(0, 3)", x.group(0, 3), 2);
    Check.due("group(1, 3)", x.group(1, 3), 0);
  }
}
