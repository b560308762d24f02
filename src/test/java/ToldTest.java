/** Promises 29 to 34: tells, film, load, image, back, count. */
final class ToldTest {
  private static final int MAX = Integer.MAX_VALUE;
  private static final int MIN = Integer.MIN_VALUE;

  private ToldTest() {}

  static void run() {
    tells();
    tellsKinds();
    tellsFigures();
    tellsRefusals();
    film();
    filmRefusals();
    load();
    loadOfBytes();
    loadStops();
    loadRefusals();
    image();
    backOfAll();
    count();
  }

  private static void tell(LiftSweeps x, int sheet, int sort, int... items) {
    x.sheet(sheet, sort, items.length);
    for (int i = 0; i < items.length; i++) {
      Check.due("put", x.put(sheet, i, items[i]), 1);
    }
  }

  private static void tells() {
    Check.begin("promise 29: tells, the first that is otherwise");
    LiftSweeps x = new LiftSweeps();
    x.call(2, 3, 1);
    for (int sort = 0; sort < 2; sort++) {
      tell(x, 1, sort, 0, 0, 1, 1, 2, 2, 2, 3, 3, 3, 3);
      Check.due("all is so", x.tells(1, 0, 0), -1);
      Check.due("the other car stands", x.tells(1, 1, 0), 2);
      for (int i = 10; i >= 0; i--) {
        x.put(1, i, 7);
        Check.due("item " + i, x.tells(1, 0, 0), i);
      }
    }
    tell(x, 1, 1, 256, 0, 1);
    Check.due("an int of 256", x.tells(1, 0, 0), 0);
    tell(x, 1, 0, 256, 0, 1);
    Check.due("a byte of 256 is 0", x.tells(1, 0, 0), -1);
    x.sheet(1, 0, 0);
    Check.due("nothing told", x.tells(1, 0, 0), -1);
    Check.due("nothing told", x.tells(1, 0, 1), 63);
    Check.due("nothing told", x.tells(1, 0, 2), 1023);
    Check.due("nothing happened", x.count(8), 0);
    Check.due("told(0, 3)", x.told(0, 3), 0);
  }

  private static void tellsKinds() {
    Check.begin("promise 29: tells, kinds");
    LiftSweeps x = new LiftSweeps();
    x.call(2, 3, 1);
    // Pace 2: plain, guest, and a night car of an odd figure; pace 3: freight, crane.
    tell(x, 0, 0, 0, 0, 1, 1, 2);
    Check.due("plain, guest", x.tells(0, 0, 1), 1 | 1 << 5);
    tell(x, 0, 0, 0, 1, 2);
    Check.due("express, night", x.tells(0, 0, 1), 1 << 1 | 1 << 3);
    tell(x, 0, 0, 0, 0, 0, 1, 1, 1, 2);
    Check.due("freight, crane", x.tells(0, 0, 1), 1 << 2 | 1 << 4);
    tell(x, 0, 0, 0, 0, 0, 0);
    Check.due("none", x.tells(0, 0, 1), 0);
    tell(x, 0, 0, 0, 1);
    Check.due("fewer", x.tells(0, 0, 1), 1 << 1 | 1 << 3);
    x.build(8, 2);
    x.car(0, 0, 5, 4);
    x.call(2, 3, 1);
    tell(x, 0, 0, 0, 0, 1, 1, 2);
    Check.due("by the figure as it is", x.tells(0, 0, 1), 1 | 1 << 3 | 1 << 5);
    // They stay 1 (plain), 3 (night of 5), 6 (guest of 5).
    tell(x, 0, 0, 0, 0, 1, 1, 2, 2, 2, 3);
    Check.due("by the stay, too", x.tells(0, 0, 1), 1);
    tell(x, 0, 0, 0, 0, 1, 1, 2, 2, 2, 2, 2, 3);
    Check.due("night", x.tells(0, 0, 1), 1 << 3);
    Check.due("otherwise for the car itself", x.tells(0, 0, 0), 7);
    tell(x, 0, 0, 0, 0, 1, 1, 2, 2, 2, 2, 2, 2, 2, 2, 3);
    Check.due("guest", x.tells(0, 0, 1), 1 << 5);
    Check.due("the car is as it was", x.told(0, 0), 0);
  }

  private static void tellsFigures() {
    Check.begin("promise 29: tells, figures");
    LiftSweeps x = new LiftSweeps();
    x.car(0, 3, 0, 4);
    x.call(2, 3, 1);
    tell(x, 0, 0, 0, 1, 2, 2, 3);
    Check.due("even ones, to stay 1", x.tells(0, 0, 2), 1 | 1 << 6);
    tell(x, 0, 0, 0, 1, 2);
    Check.due("even ones", x.tells(0, 0, 2), 1 | 1 << 2 | 1 << 4 | 1 << 6 | 1 << 8);
    tell(x, 0, 0, 0, 0, 1);
    Check.due("odd ones", x.tells(0, 0, 2), 1 << 1 | 1 << 3 | 1 << 5 | 1 << 7 | 1 << 9);
    tell(x, 0, 0, 0, 0, 0);
    Check.due("none", x.tells(0, 0, 2), 0);
    tell(x, 0, 0, 0, 0, 0, 0, 0);
    Check.due("a car that stands", x.tells(0, 1, 2), 1023);
    Check.due("a car that stands", x.tells(0, 1, 1), 63);
    x.build(8, 2);
    x.car(0, 5, 0, 4);
    x.call(0, 1, 1);
    tell(x, 0, 0, 0, 0, 0, 0, 0, 0, 0, 0, 1);
    Check.due("a guest's figure: stays 6", x.tells(0, 0, 2), 1 << 5);
    tell(x, 0, 0, 0, 0, 0, 0, 0, 0, 0, 0);
    Check.due("or more", x.tells(0, 0, 2), 0b1111100000);
    Check.due("the car is as it was", x.told(0, 1), 0);
  }

  private static void tellsRefusals() {
    Check.begin("promise 29: tells, refusals");
    LiftSweeps x = new LiftSweeps();
    int[][] wrong = {{-1, 0, 0}, {4, 0, 0}, {0, -1, 0}, {0, 2, 0}, {0, 0, -1}, {0, 0, 3},
        {MAX, 0, 0}, {0, MIN, 0}, {0, 0, MAX}};
    for (int[] w : wrong) {
      Check.due("tells(" + w[0] + ", " + w[1] + ", " + w[2] + ")", x.tells(w[0], w[1], w[2]), -2);
    }
    Check.due("missing", x.tells(3, 0, 0), -11);
    x.sheet(3, 1, 31);
    Check.due("31 are too many", x.tells(3, 0, 0), -2);
    Check.due("31 are too many", x.tells(3, 0, 1), -2);
    x.sheet(3, 1, 30);
    Check.due("30 are not", x.tells(3, 0, 0), -1);
    x.sheet(3, -1, 0);
    Check.due("missing", x.tells(3, 0, 2), -11);
  }

  private static void film() {
    Check.begin("promise 30: film");
    LiftSweeps x = new LiftSweeps();
    x.call(2, 3, 1);
    Check.due("film(0, 0, 11)", x.film(0, 0, 11), 11);
    Check.due("tells(0, 0, 0)", x.tells(0, 0, 0), -1);
    Check.due("nothing happened", x.count(8) + x.told(0, 5), 0);
    tell(x, 1, 0, 0, 0, 1, 1, 2, 2, 2, 3, 3, 3, 3);
    x.sheet(2, 0, 11);
    Check.due("bytes", x.copy(0, 0, 2, 0, 11), 11);
    Check.due("tells(2, 0, 0)", x.tells(2, 0, 0), -1);
    Check.due("not 12", x.put(0, 11, 0), -12);
    Check.due("ints before", x.sheet(3, 1, 40), 1);
    Check.due("film(3, 1, 5)", x.film(3, 1, 5), 5);
    Check.due("bytes now", x.copy(3, 0, 0, 0, 5), 5);
    Check.due("the other car stands", x.tells(0, 0, 0), 2);
    Check.due("film(3, 0, 0)", x.film(3, 0, 0), 0);
    Check.due("of size 0", x.put(3, 0, 0), -12);
    Check.due("film(3, 0, 30)", x.film(3, 0, 30), 30);
    x.ticks(5);
    Check.due("later it is otherwise", x.tells(3, 0, 0), 0);
    Check.due("film(3, 0, 30)", x.film(3, 0, 30), 30);
    Check.due("as it is now", x.tells(3, 0, 0), -1);
  }

  private static void filmRefusals() {
    Check.begin("promise 30: film, refusals");
    LiftSweeps x = new LiftSweeps();
    x.sheet(0, 1, 3);
    int[][] wrong = {{-1, 0, 5}, {4, 0, 5}, {0, -1, 5}, {0, 2, 5}, {0, 0, -1}, {0, 0, 31},
        {MIN, 0, 5}, {0, MAX, 5}, {0, 0, MAX}};
    for (int[] w : wrong) {
      Check.due("film(" + w[0] + ", " + w[1] + ", " + w[2] + ")", x.film(w[0], w[1], w[2]), -2);
    }
    Check.due("the sheet is as it was", x.put(0, 3, 1), -12);
    Check.due("the sheet is as it was", x.load(0, 1, 0, 0), 0);
  }

  private static void load() {
    Check.begin("promise 31: load");
    LiftSweeps x = new LiftSweeps();
    tell(x, 0, 1, 9, 7, 2, 1, 3, 3, 1, 1, 5, 4, 0, 6, 5);
    Check.due("7 2 1; 3 3 1 not; 1 5 4; 0 6 5 not", x.load(0, 1, 1, 4), 2);
    Check.due("count(2)", x.count(2), 2);
    Check.due("group(0, 0)", x.group(0, 0), 7);
    Check.due("group(0, 1)", x.group(0, 1), 2);
    Check.due("group(0, 2)", x.group(0, 2), 1);
    Check.due("group(1, 0)", x.group(1, 0), 1);
    Check.due("group(1, 2)", x.group(1, 2), 4);
    Check.due("none", x.load(0, 1, 0, 0), 0);
    Check.due("9 is no floor", x.load(0, 1, 0, 1), 0);
    x.build(12, 2);
    Check.due("now it is", x.load(0, 1, 0, 1), 1);
    tell(x, 1, 1, 0, 1, 1, 0, 1, 1, 0, 1, 1, 0, 1, 1, 0, 1, 1, 0, 1, 1, 0, 1, 1);
    Check.due("six", x.load(1, 1, 0, 6), 6);
    Check.due("five till it is full", x.load(1, 1, 3, 6), 5);
    Check.due("count(2)", x.count(2), 12);
  }

  private static void loadOfBytes() {
    Check.begin("promise 31: load, of bytes");
    LiftSweeps x = new LiftSweeps();
    tell(x, 0, 0, 0, 256 + 3, 2, 255, 3, 1);
    Check.due("one of them", x.load(0, 0, 0, 2), 1);
    Check.due("group(0, 1)", x.group(0, 1), 3);
    tell(x, 0, 1, 0, 256 + 3, 2);
    Check.due("of ints none", x.load(0, 1, 0, 1), 0);
  }

  private static void loadStops() {
    Check.begin("promise 31: load, what stood ahead did");
    LiftSweeps x = new LiftSweeps();
    tell(x, 0, 1, 0, 1, 1, 2, 3, 1, 4, 2);
    Check.due("load(0, 1, 0, 3)", x.load(0, 1, 0, 3), -12);
    Check.due("two called", x.count(2), 2);
    Check.due("load(0, 1, 2, 2)", x.load(0, 1, 2, 2), 2);
    Check.due("load(0, 1, 3, 2)", x.load(0, 1, 3, 2), -12);
    Check.due("one more called", x.count(2), 5);
    for (int from : new int[] {-1, 6, 7, 8, 9, 40, MAX, MAX - 2, MIN, -3, -2}) {
      Check.due("load(0, 1, " + from + ", 6)", x.load(0, 1, from, 6), -12);
      Check.due("nobody called", x.count(2), 5);
      Check.due("load(0, 1, " + from + ", 0)", x.load(0, 1, from, 0), 0);
    }
    Check.due("load(0, 1, 5, 1)", x.load(0, 1, 5, 1), 1);
  }

  private static void loadRefusals() {
    Check.begin("promise 31: load, refusals");
    LiftSweeps x = new LiftSweeps();
    tell(x, 0, 0, 0, 1, 1);
    tell(x, 1, 1, 0, 1, 1);
    int[][] wrong = {{-1, 0, 0, 1}, {4, 0, 0, 1}, {0, -1, 0, 1}, {0, 2, 0, 1}, {0, 0, 0, -1},
        {0, 0, 0, 7}, {2, 2, 0, 1}, {MAX, 0, 0, 1}, {0, MIN, 0, 1}, {0, 0, 0, MAX}};
    for (int[] w : wrong) {
      Check.due("load(" + w[0] + ", " + w[1] + ", " + w[2] + ", " + w[3] + ")",
          x.load(w[0], w[1], w[2], w[3]), -2);
    }
    Check.due("another sort", x.load(0, 1, 0, 1), -13);
    Check.due("another sort", x.load(1, 0, 0, 1), -13);
    Check.due("another sort is ahead of a place outside", x.load(1, 0, 99, 1), -13);
    Check.due("missing", x.load(2, 0, 0, 1), -11);
    Check.due("missing", x.load(2, 1, 99, 1), -11);
    Check.due("nobody called", x.count(2), 0);
  }

  private static void image() {
    Check.begin("promise 32: image");
    LiftSweeps x = new LiftSweeps();
    Check.due("image()", x.image(), 0);
    x.call(0, 3, 1);
    x.call(2, 3, 1);
    Check.due("image()", x.image(), 2);
    x.call(2, 3, 1);
    x.ticks(3);
    Check.due("the latest is kept", x.back(), 2);
    Check.due("count(2)", x.count(2), 2);
    Check.due("count(8)", x.count(8), 0);
    Check.due("all goes on from there", x.call(5, 1, 1), 2);
    Check.due("the image does not", x.back(), 2);
    Check.due("image()", x.image(), 2);
  }

  private static void backOfAll() {
    Check.begin("promise 33: back");
    LiftSweeps x = new LiftSweeps();
    Check.due("there is none", x.back(), -3);
    x.build(10, 3);
    x.car(1, 5, 7, 6);
    x.way(1);
    x.gap(8);
    x.ticks(2);
    x.call(1, 4, 3);
    x.call(1, 6, 3);
    x.call(1, 5, 1);
    x.give(1, 0);
    x.give(2, 0);
    Check.due("park()", x.park(), 1);
    x.ticks(9);
    Check.due("a group that is told", x.group(0, 5), 2);
    x.call(9, 0, 2);
    Check.due("park()", x.park(), 1);
    Check.due("a park that is told", x.told(2, 7), 1);
    int[] due = all(x);
    Check.due("image()", x.image(), 4);
    x.sheet(1, 0, 5);
    Check.feed(x, "park");
    x.ticks(50);
    x.way(2);
    x.gap(1);
    x.call(7, 8, 2);
    for (int i = 0; i < 3; i++) {
      overwrite(x);
      Check.due("back()", x.back(), 4);
      int[] got = all(x);
      for (int k = 0; k < due.length; k++) {
        Check.due("number " + k, got[k], due[k]);
      }
    }
    Check.due("sheets are not kept", x.put(1, 4, 1), 1);
    Check.due("nor is the tape", x.count(7), 4);
    x.sheet(1, -1, 0);
    Check.due("text()", x.text(), 1);
    x.back();
    Check.due("sheets are not kept", x.put(1, 4, 1), -11);
    Check.due("nor is the tape", x.count(7), 0);
  }

  /** Leaves nothing as it was: other cars, groups, and more events than are held. */
  private static void overwrite(LiftSweeps x) {
    x.build(4, 4);
    for (int car = 0; car < 4; car++) {
      x.car(car, 3, 3, 3);
    }
    for (int i = 0; i < 9; i++) {
      x.call(3, i % 3, 2);
      x.give(i, (x.group(i, 3) + 1) % 4);
      x.give(i, (x.group(i, 3) + 1) % 4);
      x.ticks(30);
    }
    x.park();
  }

  /** All that can be asked for, but for sheets and the tape. */
  private static int[] all(LiftSweeps x) {
    int[] got = new int[400];
    int n = 0;
    for (int what = 0; what <= 31; what++) {
      got[n++] = what == 7 ? 0 : x.count(what);
    }
    for (int car = 0; car < 4; car++) {
      for (int what = 0; what < 13; what++) {
        got[n++] = x.told(car, what);
      }
    }
    for (int group = 0; group < 5; group++) {
      for (int what = 0; what < 8; what++) {
        got[n++] = x.group(group, what);
      }
    }
    for (int i = 0; i < 20; i++) {
      for (int what = 0; what < 4; what++) {
        got[n++] = x.event(i, what);
      }
    }
    for (int what = 0; what < 5; what++) {
      got[n++] = x.oldest(what);
      got[n++] = x.done(what);
    }
    return got;
  }

  private static void count() {
    Check.begin("promise 34: count");
    LiftSweeps x = new LiftSweeps();
    x.build(9, 3);
    x.way(1);
    x.gap(11);
    x.call(0, 2, 4);
    x.call(8, 2, 2);
    x.call(8, 1, 1);
    Check.feed(x, "park;p");
    x.ticks(6);
    int[] due = {9, 3, 3, 2, 0, 1, 5, 6, 6, 1, 11, -2};
    for (int what = 0; what < due.length; what++) {
      Check.due("count(" + what + ")", x.count(what), due[what]);
    }
    int[] demands = {1, 0, 0, 0, 0, 0, 0, 0, 2, -1, -1, -1};
    for (int floor = 0; floor < 12; floor++) {
      Check.due("count(" + (20 + floor) + ")", x.count(20 + floor), demands[floor]);
    }
    for (int what : new int[] {-1, 11, 12, 19, 32, 33, MAX, MIN}) {
      Check.due("count(" + what + ")", x.count(what), -2);
    }
    LiftSweeps y = new LiftSweeps();
    y.call(0, 2, 4);
    y.call(8, 2, 2);
    y.tick();
    Check.due("count(4)", y.count(4), 1);
    Check.due("count(3)", y.count(3), 0);
  }
}
