/** Promises 35 to 37: sheet, put, copy. Items are seen by load: three of them are a call. */
final class HostTest {
  private static final int MAX = Integer.MAX_VALUE;
  private static final int MIN = Integer.MIN_VALUE;

  private HostTest() {}

  static void run() {
    sheet();
    sheetRefusals();
    put();
    putRefusals();
    copy();
    copyOfItself();
    copyEdges();
    copyRefusals();
    longRun();
  }

  /** Item i of a row of ints, read as the size of a call; for values 1 to 8, else -1. */
  private static int item(LiftSweeps x, int sheet, int i, int sort) {
    // A row of its own: floor, floor, the item.
    int spare = sheet == 3 ? 2 : 3;
    x.sheet(spare, sort, 3);
    x.put(spare, 1, 1);
    if (x.copy(sheet, i, spare, 2, 1) != 1) {
      return -2;
    }
    x.build(4, 1);
    x.car(0, 0, 0, 8);
    return x.load(spare, sort, 0, 1) == 1 ? x.group(0, 2) : -1;
  }

  private static void sheet() {
    Check.begin("promise 35: sheet");
    LiftSweeps x = new LiftSweeps();
    for (int sort = 0; sort < 2; sort++) {
      for (int n : new int[] {0, 1, 3, 40}) {
        Check.due("sheet(2, " + sort + ", " + n + ")", x.sheet(2, sort, n), 1);
        Check.due("the last item", x.put(2, n - 1, 1), n == 0 ? -12 : 1);
        Check.due("one behind", x.put(2, n, 1), -12);
      }
      Check.due("its sort", x.load(2, sort, 0, 0), 0);
      Check.due("its sort", x.load(2, 1 - sort, 0, 0), -13);
    }
    Check.due("others are missing", x.put(1, 0, 1), -11);
    x.sheet(0, 1, 5);
    for (int i = 0; i < 5; i++) {
      x.put(0, i, 7);
      Check.due("an item", item(x, 0, i, 1), 7);
    }
    x.sheet(0, 1, 5);
    tellsZero(x);
    Check.due("missing", x.sheet(0, -1, 0), 1);
    Check.due("put", x.put(0, 0, 0), -11);
    Check.due("n does not matter", x.sheet(0, -1, 99), 1);
    Check.due("n does not matter", x.sheet(0, -1, -5), 1);
    Check.due("n does not matter", x.sheet(0, -1, MIN), 1);
    Check.due("put", x.put(0, 0, 0), -11);
  }

  private static void tellsZero(LiftSweeps x) {
    x.build(4, 1);
    Check.due("all 0, as the floor of a car that stands", x.tells(0, 0, 0), -1);
  }

  private static void sheetRefusals() {
    Check.begin("promise 35: sheet, refusals");
    LiftSweeps x = new LiftSweeps();
    x.sheet(0, 1, 4);
    int[][] wrong = {{-1, 0, 5}, {4, 0, 5}, {0, -2, 5}, {0, 2, 5}, {0, 0, 41}, {0, 1, MAX},
        {MAX, 0, 5}, {0, MIN, 5}, {4, -1, 0}, {4, 0, -1}, {0, 2, -1}};
    for (int[] w : wrong) {
      Check.due("sheet(" + w[0] + ", " + w[1] + ", " + w[2] + ")", x.sheet(w[0], w[1], w[2]), -2);
    }
    Check.due("sheet(0, 0, -1)", x.sheet(0, 0, -1), -14);
    Check.due("sheet(0, 1, MIN)", x.sheet(0, 1, MIN), -14);
    Check.due("sheet(3, 1, -1)", x.sheet(3, 1, -1), -14);
    Check.due("still missing", x.put(3, 0, 0), -11);
    Check.due("as it was", x.put(0, 3, 0), 1);
    Check.due("as it was", x.put(0, 4, 0), -12);
    Check.due("as it was", x.load(0, 1, 0, 0), 0);
  }

  private static void put() {
    Check.begin("promise 36: put");
    LiftSweeps x = new LiftSweeps();
    x.sheet(0, 0, 3);
    x.sheet(1, 1, 3);
    int[] values = {5, 256 + 5, -251, 4, 8, -256 + 8, 261 * 256 + 3};
    for (int v : values) {
      Check.due("put(0, 2, " + v + ")", x.put(0, 2, v), 1);
      Check.due("its lowest 8 bits", item(x, 0, 2, 0), v & 255);
      Check.due("put(1, 0, " + v + ")", x.put(1, 0, v), 1);
      Check.due("an int", item(x, 1, 0, 1), v >= 1 && v <= 8 ? v : -1);
    }
    Check.due("the others are as they were", item(x, 0, 1, 0), -1);
  }

  private static void putRefusals() {
    Check.begin("promise 36: put, refusals");
    LiftSweeps x = new LiftSweeps();
    Check.due("put(-1, 0, 0)", x.put(-1, 0, 0), -2);
    Check.due("put(4, 0, 0)", x.put(4, 0, 0), -2);
    Check.due("put(MAX, 0, 0)", x.put(MAX, 0, 0), -2);
    Check.due("put(0, 0, 0)", x.put(0, 0, 0), -11);
    Check.due("put(0, -1, 0)", x.put(0, -1, 0), -11);
    x.sheet(0, 1, 3);
    for (int i : new int[] {-1, 3, 40, MAX, MIN}) {
      Check.due("put(0, " + i + ", 0)", x.put(0, i, 0), -12);
    }
  }

  private static void rows(LiftSweeps x) {
    for (int sheet = 0; sheet < 2; sheet++) {
      x.sheet(sheet, 1, 6);
      for (int i = 0; i < 6; i++) {
        x.put(sheet, i, sheet == 0 ? i + 1 : 8);
      }
    }
  }

  private static void items(LiftSweeps x, int sheet, int... due) {
    for (int i = 0; i < due.length; i++) {
      Check.due("item " + i + " of " + sheet, item(x, sheet, i, 1), due[i]);
    }
  }

  private static void copy() {
    Check.begin("promise 37: copy");
    LiftSweeps x = new LiftSweeps();
    rows(x);
    Check.due("copy(0, 1, 1, 2, 3)", x.copy(0, 1, 1, 2, 3), 3);
    items(x, 1, 8, 8, 2, 3, 4, 8);
    items(x, 0, 1, 2, 3, 4, 5, 6);
    x.sheet(2, 0, 5);
    x.put(2, 0, 3);
    x.sheet(1, 0, 2);
    Check.due("of bytes", x.copy(2, 0, 1, 1, 1), 1);
    Check.due("item", item(x, 1, 1, 0), 3);
  }

  private static void copyOfItself() {
    Check.begin("promise 37: copy, one and the same, as they were");
    LiftSweeps x = new LiftSweeps();
    rows(x);
    Check.due("copy(0, 0, 0, 1, 5)", x.copy(0, 0, 0, 1, 5), 5);
    items(x, 0, 1, 1, 2, 3, 4, 5);
    rows(x);
    Check.due("copy(0, 2, 0, 0, 4)", x.copy(0, 2, 0, 0, 4), 4);
    items(x, 0, 3, 4, 5, 6, 5, 6);
    rows(x);
    Check.due("copy(0, 0, 0, 0, 6)", x.copy(0, 0, 0, 0, 6), 6);
    items(x, 0, 1, 2, 3, 4, 5, 6);
  }

  private static void copyEdges() {
    Check.begin("promise 37: copy, places");
    LiftSweeps x = new LiftSweeps();
    rows(x);
    Check.due("all", x.copy(0, 0, 1, 0, 6), 6);
    Check.due("none", x.copy(0, 0, 1, 0, 0), 0);
    Check.due("none, at the end", x.copy(0, 6, 1, 6, 0), 0);
    int[][] wrong = {{0, 0, 7}, {1, 0, 6}, {0, 1, 6}, {-1, 0, 1}, {0, -1, 1}, {0, 0, -1},
        {6, 0, 1}, {0, 6, 1}, {7, 0, 0}, {0, 7, 0}, {-1, 0, 0}, {0, -1, 0}, {MAX, 0, 1},
        {0, MAX, 1}, {1, 1, MAX}, {MAX, MAX, MAX}, {MIN, 0, 1}, {0, 0, MIN}, {1, 0, MIN}};
    for (int[] w : wrong) {
      Check.due("copy(0, " + w[0] + ", 1, " + w[1] + ", " + w[2] + ")",
          x.copy(0, w[0], 1, w[1], w[2]), -12);
    }
    items(x, 1, 1, 2, 3, 4, 5, 6);
  }

  private static void copyRefusals() {
    Check.begin("promise 37: copy, refusals");
    LiftSweeps x = new LiftSweeps();
    x.sheet(0, 0, 3);
    x.sheet(1, 1, 3);
    int[][] wrong = {{-1, 0}, {4, 0}, {0, -1}, {0, 4}, {2, 4}, {MAX, 0}, {0, MIN}};
    for (int[] w : wrong) {
      Check.due("copy(" + w[0] + ", 0, " + w[1] + ", 0, 1)", x.copy(w[0], 0, w[1], 0, 1), -2);
    }
    Check.due("missing", x.copy(2, 0, 0, 0, 1), -11);
    Check.due("missing", x.copy(0, 0, 2, 0, 1), -11);
    Check.due("missing, of itself", x.copy(2, 0, 2, 0, 0), -11);
    Check.due("missing, and outside", x.copy(2, 9, 0, 9, -1), -11);
    Check.due("unlike", x.copy(0, 0, 1, 0, 1), -13);
    Check.due("unlike", x.copy(1, 0, 0, 0, 0), -13);
    Check.due("unlike, and outside", x.copy(0, 9, 1, 9, -1), -13);
  }

  private static void longRun() {
    Check.begin("an object is used for 512 calls");
    LiftSweeps x = new LiftSweeps();
    for (int i = 0; i < 511; i++) {
      Check.due("ticks(99)", x.ticks(99), 0);
    }
    Check.due("the 512th", x.count(8), 511 * 99);
  }
}
