/** Promises 1 to 5: a new object, build, car, told, taken. */
final class FloorsTest {
  private FloorsTest() {}

  static void run() {
    newObject();
    build();
    buildForgets();
    car();
    carRefusals();
    told();
    toldOfKinds();
    toldCrane();
    taken();
  }

  private static void asAtFirst(LiftSweeps x, int car) {
    int[] due = {0, 0, 4, 0, 0, 0, 0, -1, 0, 0, 2, 1, 0};
    for (int what = 0; what < due.length; what++) {
      Check.due("told(" + car + ", " + what + ")", x.told(car, what), due[what]);
    }
  }

  private static void newObject() {
    Check.begin("promise 1: a new object");
    LiftSweeps x = new LiftSweeps();
    int[] due = {8, 2, 0, 0, 0, 0, 0, 0, 0, 0, 3};
    for (int what = 0; what < due.length; what++) {
      Check.due("count(" + what + ")", x.count(what), due[what]);
    }
    for (int floor = 0; floor < 12; floor++) {
      Check.due("count(" + (20 + floor) + ")", x.count(20 + floor), floor < 8 ? 0 : -1);
    }
    asAtFirst(x, 0);
    asAtFirst(x, 1);
    Check.due("told(2, 0)", x.told(2, 0), -2);
    Check.due("group(0, 0)", x.group(0, 0), -2);
    Check.due("event(0, 0)", x.event(0, 0), -12);
    Check.due("back()", x.back(), -3);
    for (int sheet = 0; sheet < 4; sheet++) {
      Check.due("put(" + sheet + ", 0, 0)", x.put(sheet, 0, 0), -11);
    }
    Check.due("text()", x.text(), -100);
    Check.due("done(0)", x.done(0), 0);
  }

  private static void build() {
    Check.begin("promise 2: build");
    LiftSweeps x = new LiftSweeps();
    Check.due("build(2, 1)", x.build(2, 1), 8);
    Check.due("count(0)", x.count(0), 2);
    Check.due("count(1)", x.count(1), 1);
    Check.due("told(1, 0)", x.told(1, 0), -2);
    Check.due("call(1, 2, 1)", x.call(1, 2, 1), -2);
    Check.due("build(12, 4)", x.build(12, 4), 2);
    Check.due("count(0)", x.count(0), 12);
    Check.due("told(3, 2)", x.told(3, 2), 4);
    Check.due("told(4, 2)", x.told(4, 2), -2);
    Check.due("call(11, 0, 1)", x.call(11, 0, 1), 0);
    int[][] wrong = {{1, 1}, {13, 1}, {5, 0}, {5, 5}, {-1, 2}, {Integer.MAX_VALUE, 2},
        {5, Integer.MIN_VALUE}};
    for (int[] w : wrong) {
      Check.due("build(" + w[0] + ", " + w[1] + ")", x.build(w[0], w[1]), -2);
    }
    Check.due("refusals change nothing", x.count(2), 1);
    Check.due("build(5, 2)", x.build(5, 2), 12);
  }

  private static void buildForgets() {
    Check.begin("promise 2: build, all as at first");
    LiftSweeps x = new LiftSweeps();
    x.car(0, 3, 7, 6);
    x.way(1);
    x.gap(9);
    x.call(0, 5, 5);
    x.call(0, 6, 4);
    x.call(0, 7, 1);
    x.give(1, 0);
    x.give(2, 0);
    x.image();
    x.sheet(2, 1, 7);
    Check.feed(x, "par");
    x.ticks(30);
    Check.due("oldest(4)", x.oldest(4), 1);
    Check.due("build(8, 2)", x.build(8, 2), 8);
    asAtFirst(x, 0);
    asAtFirst(x, 1);
    for (int what = 2; what <= 6; what++) {
      Check.due("count(" + what + ")", x.count(what), 0);
    }
    Check.due("count(8)", x.count(8), 0);
    Check.due("count(20)", x.count(20), 0);
    Check.due("oldest(2)", x.oldest(2), -1);
    Check.due("oldest(4)", x.oldest(4), 0);
    Check.due("event(0, 0)", x.event(0, 0), -12);
    Check.due("the way stays", x.count(9), 1);
    Check.due("the gap stays", x.count(10), 9);
    Check.due("the tape stays", x.count(7), 3);
    Check.due("sheets stay", x.put(2, 6, 1), 1);
    Check.due("the image stays", x.back(), 3);
    Check.due("told(0, 0)", x.told(0, 0), 3);
  }

  private static void car() {
    Check.begin("promise 3: car");
    LiftSweeps x = new LiftSweeps();
    Check.due("car(0, 5, 9, 8)", x.car(0, 5, 9, 8), 0);
    Check.due("car(0, 4, 0, 1)", x.car(0, 4, 0, 1), 59);
    Check.due("told(0, 0)", x.told(0, 0), 4);
    Check.due("told(0, 1)", x.told(0, 1), 0);
    Check.due("told(0, 2)", x.told(0, 2), 1);
    Check.due("car(0, 0, 3, 4)", x.car(0, 0, 3, 4), 40);
    Check.due("car(0, 0, 0, 4)", x.car(0, 0, 0, 4), 3);
    Check.due("the other car is as it was", x.told(1, 2), 4);
    int[][] wrong = {{-1, 0, 0, 4}, {2, 0, 0, 4}, {0, -1, 0, 4}, {0, 6, 0, 4}, {0, 0, -1, 4},
        {0, 0, 10, 4}, {0, 0, 0, 0}, {0, 0, 0, 9}, {Integer.MAX_VALUE, 0, 0, 4}};
    for (int[] w : wrong) {
      Check.due("car(" + w[0] + ", " + w[1] + ", " + w[2] + ", " + w[3] + ")",
          x.car(w[0], w[1], w[2], w[3]), -2);
    }
    Check.due("told(0, 0)", x.told(0, 0), 0);
  }

  private static void carRefusals() {
    Check.begin("promise 3: car, own groups");
    LiftSweeps x = new LiftSweeps();
    x.call(1, 2, 1);
    Check.due("one waits", x.car(0, 1, 1, 1), -3);
    Check.due("BAD is first", x.car(0, 6, 1, 1), -2);
    Check.due("the other car has none", x.car(1, 1, 1, 1), 0);
    Check.due("told(0, 0)", x.told(0, 0), 0);
    x.ticks(4);
    Check.due("one rides", x.group(0, 4), 1);
    Check.due("car(0, 1, 1, 1)", x.car(0, 1, 1, 1), -3);
    x.ticks(3);
    Check.due("it is there", x.group(0, 4), 2);
    Check.due("car(0, 1, 1, 1)", x.car(0, 1, 1, 1), 0);
  }

  private static void told() {
    Check.begin("promise 4: told");
    LiftSweeps x = new LiftSweeps();
    x.call(2, 4, 3);
    x.call(6, 1, 2);
    Check.due("both are the first car's", x.told(0, 12), 2);
    Check.due("stops", x.told(0, 9), 1 << 2 | 1 << 6);
    Check.due("nobody rides", x.told(0, 8), 0);
    x.tick();
    Check.due("it goes up", x.told(0, 4), 1);
    Check.due("wait", x.told(0, 5), 2);
    Check.due("goes", x.told(0, 6), 1);
    Check.due("floor", x.told(0, 3), 0);
    x.ticks(4);
    Check.due("floor", x.told(0, 3), 2);
    Check.due("wait is stay", x.told(0, 5), 1);
    Check.due("goes", x.told(0, 6), 0);
    Check.due("three ride", x.told(0, 8), 3);
    Check.due("stops", x.told(0, 9), 1 << 4 | 1 << 6);
    Check.due("own groups", x.told(0, 12), 2);
    Check.due("the other has none", x.told(1, 12), 0);
    int[][] wrong = {{-1, 0}, {2, 0}, {0, -1}, {0, 13}, {0, Integer.MAX_VALUE},
        {Integer.MIN_VALUE, 8}, {5, 9}, {5, 10}, {5, 12}};
    for (int[] w : wrong) {
      Check.due("told(" + w[0] + ", " + w[1] + ")", x.told(w[0], w[1]), -2);
    }
  }

  private static void toldOfKinds() {
    Check.begin("promise 4: told, pace and stay of the kinds");
    LiftSweeps x = new LiftSweeps();
    for (int figure = 0; figure < 10; figure++) {
      int[] pace = {2, 1, 3, 1 + figure % 2, 3, 2};
      int[] stay = {1, 1, 2, 1 + figure % 3, 3, 1 + figure};
      for (int kind = 0; kind < 6; kind++) {
        x.car(1, kind, figure, 4);
        Check.due("pace of " + kind + ", " + figure, x.told(1, 10), pace[kind]);
        Check.due("stay of " + kind + ", " + figure, x.told(1, 11), stay[kind]);
      }
    }
  }

  private static void toldCrane() {
    Check.begin("promise 4: told, a crane's pace by its riders");
    LiftSweeps x = new LiftSweeps();
    x.car(0, 4, 0, 8);
    x.call(0, 3, 5);
    Check.due("empty", x.told(0, 10), 3);
    x.tick();
    Check.due("five ride", x.told(0, 10), 5);
    Check.due("taken does not count them", x.taken(0, 2), 3);
    Check.due("stay", x.told(0, 5), 3);
    x.ticks(3);
    Check.due("it goes", x.told(0, 6), 1);
    Check.due("wait", x.told(0, 5), 5);
    LiftSweeps y = new LiftSweeps();
    y.car(0, 2, 0, 8);
    y.call(0, 3, 5);
    y.tick();
    Check.due("a freight does not care", y.told(0, 10), 3);
  }

  private static void taken() {
    Check.begin("promise 5: taken");
    LiftSweeps x = new LiftSweeps();
    boolean[][] under = {
      {true, false, false, false, false, false},
      {true, true, false, false, false, false},
      {true, false, true, false, false, false},
      {true, true, false, true, false, false},
      {true, false, true, false, true, false},
      {true, false, false, false, false, true},
    };
    int[] pace = {2, 1, 3, 2, 3, 2};
    for (int kind = 0; kind < 6; kind++) {
      x.car(0, kind, 5, 4);
      for (int k = 0; k < 6; k++) {
        Check.due(kind + " taken for " + k, x.taken(0, k), under[kind][k] ? pace[kind] : -13);
      }
    }
    Check.due("taken(0, -1)", x.taken(0, -1), -2);
    Check.due("taken(0, 6)", x.taken(0, 6), -2);
    Check.due("taken(2, 0)", x.taken(2, 0), -2);
    Check.due("taken(-1, 0)", x.taken(-1, 0), -2);
  }
}
