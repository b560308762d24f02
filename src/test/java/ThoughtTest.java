/** Promises 21 to 25: done, would, soonest, drawn, chance. */
final class ThoughtTest {
  private static final int MAX = Integer.MAX_VALUE;
  private static final int MIN = Integer.MIN_VALUE;

  private ThoughtTest() {}

  static void run() {
    done();
    doneChangesNothing();
    would();
    wouldRefusals();
    wouldEndsPark();
    soonest();
    drawnByHand();
    drawnRefused();
    drawnByTheWay();
    drawnWrong();
    chance();
    chanceNobody();
    chanceWrong();
  }

  private static void done() {
    Check.begin("promise 21: done");
    LiftSweeps x = new LiftSweeps();
    Check.due("done(0)", x.done(0), 0);
    Check.due("done(1)", x.done(1), -1);
    Check.due("done(2)", x.done(2), 0);
    x.car(1, 0, 0, 1);
    x.call(0, 4, 3);
    x.call(0, 5, 2);
    x.call(0, 6, 1);
    // 1 boards; 10 on 4; 15 on 6; 28 on 0 again; 39 on 5.
    Check.due("done(0)", x.done(0), 39);
    Check.due("waited by the longest then", x.done(1), 28);
    Check.due("passed then", x.done(2), 1);
    x.ticks(10);
    Check.due("done(0)", x.done(0), 29);
    Check.due("done(1)", x.done(1), 28);
    x.ticks(29);
    Check.due("count(5)", x.count(5), 3);
    Check.due("done(0)", x.done(0), 0);
    Check.due("done(1)", x.done(1), 28);
    Check.due("done(2)", x.done(2), 1);
    for (int what : new int[] {-1, 3, MAX, MIN}) {
      Check.due("done(" + what + ")", x.done(what), -2);
    }
  }

  private static void doneChangesNothing() {
    Check.begin("promise 21: done, in thought");
    LiftSweeps x = new LiftSweeps();
    x.call(0, 4, 3);
    x.call(5, 1, 2);
    x.done(0);
    x.drawn(5, 6, 0);
    x.chance(5, 6, 50, 0);
    x.soonest(0);
    x.would(1, 1, 1);
    x.way(2);
    x.cost(1, 1);
    Check.due("tick", x.count(8), 0);
    Check.due("groups", x.count(2), 2);
    Check.due("waiting", x.count(3), 2);
    Check.due("events", x.count(6), 2);
    Check.due("floor", x.told(0, 3), 0);
    Check.due("direction", x.told(0, 4), 0);
    Check.due("passed", x.oldest(4), 0);
    Check.due("demand", x.count(20) + x.count(25), 2);
    Check.due("car", x.group(1, 3), 0);
    Check.due("given", x.group(1, 7), 0);
  }

  private static void would() {
    Check.begin("promise 22: would");
    LiftSweeps x = new LiftSweeps();
    x.build(8, 3);
    x.car(1, 1, 0, 4);
    x.car(2, 4, 0, 8);
    x.call(3, 6, 4);
    Check.due("plain", x.would(0, 0, 0), 1 + 6);
    Check.due("plain", x.would(0, 0, 1), 1 + 6 + 1 + 6);
    Check.due("express", x.would(0, 1, 0), 1 + 3);
    Check.due("express", x.would(0, 1, 1), 1 + 3 + 1 + 3);
    Check.due("crane", x.would(0, 2, 0), 1 + 9);
    Check.due("crane", x.would(0, 2, 1), 1 + 9 + 3 + 15);
    x.give(0, 1);
    x.give(0, 0);
    Check.due("twice does not matter", x.would(0, 1, 0), 1 + 3);
    Check.due("give(0, 1)", x.give(0, 1), -3);
    x.ticks(3);
    Check.due("its own, on its way", x.would(0, 0, 0), 4);
    Check.due("another, from now", x.would(0, 1, 0), 4);
  }

  private static void wouldRefusals() {
    Check.begin("promise 22: would, refusals");
    LiftSweeps x = new LiftSweeps();
    x.car(1, 0, 0, 2);
    x.call(0, 3, 3);
    x.call(5, 3, 2);
    Check.due("no room", x.would(0, 1, 0), -3);
    Check.due("just room", x.would(1, 1, 0), 11);
    int[][] wrong = {{-1, 0, 0}, {2, 0, 0}, {0, -1, 0}, {0, 2, 0}, {0, 0, -1}, {0, 0, 2},
        {0, 1, 2}, {MAX, 0, 0}, {0, MIN, 0}, {0, 0, MAX}};
    for (int[] w : wrong) {
      Check.due("would(" + w[0] + ", " + w[1] + ", " + w[2] + ")", x.would(w[0], w[1], w[2]), -2);
    }
    x.tick();
    Check.due("it rides", x.would(0, 0, 1), -3);
    x.ticks(50);
    Check.due("it is there", x.would(0, 0, 1), -3);
  }

  private static void wouldEndsPark() {
    Check.begin("promise 22: would, a park is none then");
    LiftSweeps x = new LiftSweeps();
    x.call(7, 5, 1);
    x.ticks(40);
    x.car(0, 0, 0, 1);
    x.call(7, 4, 2);
    x.ticks(40);
    x.call(7, 6, 2);
    x.ticks(40);
    Check.due("call(2, 6, 1)", x.call(2, 6, 1), 3);
    Check.due("give(3, 1)", x.give(3, 1), 1);
    Check.due("car 0 is idle on 5", x.told(0, 3), 5);
    Check.due("it is to park on 7", x.park(), 1);
    Check.due("told(0, 7)", x.told(0, 7), 7);
    Check.due("it goes down at once", x.would(3, 0, 0), 7);
    Check.due("told(0, 7)", x.told(0, 7), 7);
    x.way(2);
    Check.due("cost, too", x.cost(3, 0), 7);
    Check.due("told(0, 7)", x.told(0, 7), 7);
  }

  private static void soonest() {
    Check.begin("promise 23: soonest");
    LiftSweeps x = new LiftSweeps();
    x.build(10, 4);
    x.car(0, 2, 0, 4);
    x.car(2, 3, 2, 4);
    x.car(3, 1, 0, 3);
    x.call(0, 1, 4);
    // To board: 1 each; there: 3, 2, 1 floors' pace and 2, 1, 3 to stay.
    Check.due("freight, plain, night", x.soonest(0), 1);
    Check.due("would(0, 0, 1)", x.would(0, 0, 1), 6);
    Check.due("would(0, 1, 1)", x.would(0, 1, 1), 4);
    Check.due("would(0, 2, 1)", x.would(0, 2, 1), 5);
    x.call(0, 9, 4);
    Check.due("far, the night car", x.soonest(1), 2);
    x.call(0, 9, 3);
    Check.due("the express, with room for three", x.soonest(2), 3);
    x.build(8, 2);
    x.call(3, 7, 1);
    x.give(0, 1);
    Check.due("of like ones the first", x.soonest(0), 0);
    Check.due("soonest(-1)", x.soonest(-1), -2);
    Check.due("soonest(1)", x.soonest(1), -2);
    Check.due("soonest(MAX)", x.soonest(MAX), -2);
    x.ticks(10);
    Check.due("it rides", x.soonest(0), -3);
    x.ticks(30);
    Check.due("it is there", x.soonest(0), -3);
    x.build(8, 2);
    x.car(0, 0, 0, 1);
    x.call(3, 7, 2);
    Check.due("the first has no room", x.soonest(0), 1);
  }

  /** The draw as the document tells it: from, to, size of n calls. */
  private static int[] draw(int seed, int n, int f) {
    int[] calls = new int[3 * n];
    int z = seed;
    for (int i = 0; i < n; i++) {
      z = z * 1103515245 + 12345;
      int a = (z >>> 9) % f;
      z = z * 1103515245 + 12345;
      int b = (z >>> 9) % (f - 1);
      z = z * 1103515245 + 12345;
      calls[3 * i] = a;
      calls[3 * i + 1] = b >= a ? b + 1 : b;
      calls[3 * i + 2] = 1 + (z >>> 9) % 4;
    }
    return calls;
  }

  private static void sameAsCalls(LiftSweeps x, int seed, int n) {
    int[] got = {x.drawn(seed, n, 0), x.drawn(seed, n, 1), x.drawn(seed, n, 2)};
    x.image();
    int[] calls = draw(seed, n, x.count(0));
    for (int i = 0; i < n; i++) {
      x.call(calls[3 * i], calls[3 * i + 1], calls[3 * i + 2]);
    }
    for (int what = 0; what < 3; what++) {
      Check.due("drawn(" + seed + ", " + n + ", " + what + ")", got[what], x.done(what));
    }
    x.back();
  }

  private static void drawnByHand() {
    Check.begin("promise 24: drawn");
    LiftSweeps x = new LiftSweeps();
    Check.due("none drawn", x.drawn(77, 0, 0), 0);
    Check.due("none drawn", x.drawn(77, 0, 1), -1);
    // z is 12345, -1406932606 (so 5640640 % 7 = 1 and on), 654583775 from seed 0 on.
    int[] calls = draw(0, 1, 8);
    Check.due("from", calls[0], 12345 / 512 % 8);
    LiftSweeps y = new LiftSweeps();
    y.call(calls[0], calls[1], calls[2]);
    Check.due("drawn(0, 1, 0)", x.drawn(0, 1, 0), y.done(0));
    Check.due("drawn(0, 1, 1)", x.drawn(0, 1, 1), y.done(1));
    for (int seed : new int[] {0, 1, 7, -1, MAX, MIN, 123456789}) {
      for (int n = 0; n <= 6; n++) {
        sameAsCalls(x, seed, n);
      }
    }
    x.build(12, 3);
    x.call(3, 9, 4);
    x.ticks(9);
    sameAsCalls(x, 5, 6);
    x.build(2, 1);
    sameAsCalls(x, 5, 6);
    x.build(7, 4);
    x.car(2, 4, 3, 8);
    sameAsCalls(x, -99, 6);
  }

  private static void drawnRefused() {
    Check.begin("promise 24: drawn, what the call refuses");
    LiftSweeps x = new LiftSweeps();
    x.build(8, 1);
    x.car(0, 0, 0, 2);
    for (int seed = 1; seed < 6; seed++) {
      sameAsCalls(x, seed, 6);
    }
    for (int i = 0; i < 10; i++) {
      x.call(i % 7, 7, 1);
    }
    x.car(0, 0, 0, 4);
    for (int seed = 1; seed < 6; seed++) {
      sameAsCalls(x, seed, 6);
    }
  }

  private static void drawnByTheWay() {
    Check.begin("promise 24: drawn, by each way");
    for (int way = 0; way < 3; way++) {
      LiftSweeps x = new LiftSweeps();
      x.build(12, 4);
      x.way(way);
      x.car(1, 1, 0, 2);
      x.car(2, 5, 9, 8);
      x.call(6, 1, 1);
      x.ticks(8);
      for (int seed = 10; seed < 15; seed++) {
        sameAsCalls(x, seed, 5);
      }
    }
  }

  private static void drawnWrong() {
    Check.begin("promise 24: drawn, refusals");
    LiftSweeps x = new LiftSweeps();
    int[][] wrong = {{-1, 0}, {7, 0}, {3, -1}, {3, 3}, {MAX, 0}, {3, MIN}};
    for (int[] w : wrong) {
      Check.due("drawn(1, " + w[0] + ", " + w[1] + ")", x.drawn(1, w[0], w[1]), -2);
    }
  }

  private static void chance() {
    Check.begin("promise 25: chance");
    LiftSweeps x = new LiftSweeps();
    x.build(10, 2);
    for (int seed : new int[] {3, -4, MAX - 2}) {
      for (int m = 1; m <= 6; m++) {
        for (int w : new int[] {0, 10, 15, 20, 999}) {
          int good = 0;
          for (int i = 0; i < m; i++) {
            int waited = x.drawn(seed + i, 3, 1);
            good += waited <= w ? 1 : 0;
          }
          int above = x.chance(seed, m, w, 0);
          int below = x.chance(seed, m, w, 1);
          String call = "chance(" + seed + ", " + m + ", " + w + ")";
          Check.due(call, above * m, good * below);
          boolean lowest = below == 1 || above > 0;
          for (int d = 2; d <= below; d++) {
            lowest &= above % d != 0 || below % d != 0;
          }
          Check.holds(call + " in lowest terms", lowest && below >= 1);
        }
      }
    }
    Check.due("none: 0 / 1", x.chance(3, 6, 0, 1), 1);
    Check.due("all: 1 / 1", x.chance(3, 6, 999, 0), 1);
    int edge = x.drawn(3, 3, 1);
    Check.due("w or less", x.chance(3, 1, edge, 0), 1);
    Check.due("not more", x.chance(3, 1, edge - 1, 0), 0);
  }

  private static void chanceNobody() {
    Check.begin("promise 25: chance, nobody boarded");
    LiftSweeps x = new LiftSweeps();
    x.build(8, 1);
    x.car(0, 0, 0, 1);
    int m = 0;
    int good = 0;
    for (int seed = 0; seed < 200; seed++) {
      boolean none = x.drawn(seed, 3, 1) == -1;
      boolean nextNone = x.drawn(seed + 1, 3, 1) == -1;
      if (none != nextNone) {
        Check.due("half of them", x.chance(seed, 2, 999, 0), 1);
        Check.due("half of them", x.chance(seed, 2, 999, 1), 2);
        m++;
      }
      if (none) {
        Check.due("none", x.chance(seed, 1, 999, 0), 0);
        Check.due("none", x.chance(seed, 1, 999, 1), 1);
        good++;
      }
    }
    Check.holds("there were such seeds", m > 0 && good > 0);
  }

  private static void chanceWrong() {
    Check.begin("promise 25: chance, refusals");
    LiftSweeps x = new LiftSweeps();
    int[][] wrong = {{0, 5, 0}, {7, 5, 0}, {-1, 5, 0}, {1, -1, 0}, {1, 1000, 0}, {1, 5, -1},
        {1, 5, 2}, {MAX, 5, 0}, {1, MIN, 0}, {1, 5, MAX}};
    for (int[] w : wrong) {
      Check.due("chance(1, " + w[0] + ", " + w[1] + ", " + w[2] + ")",
          x.chance(1, w[0], w[1], w[2]), -2);
    }
  }
}
