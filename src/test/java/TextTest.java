/** Promises 26 to 28: feed, text, event. */
final class TextTest {
  private TextTest() {}

  static void run() {
    feed();
    feedFull();
    textDoes();
    textBlanks();
    textFaults();
    textRefused();
    textEmpties();
    event();
    eventsLatest();
  }

  private static void feed() {
    Check.begin("promise 26: feed");
    LiftSweeps x = new LiftSweeps();
    Check.due("feed(4)", x.feed(4, 'p', 'a', 'r', 'k', 0), 4);
    Check.due("feed(1)", x.feed(1, ';', 255, 255, 255, 255), 5);
    Check.due("feed(5)", x.feed(5, 'w', 'a', 'y', ' ', '2'), 10);
    Check.due("count(7)", x.count(7), 10);
    int[][] wrong = {{0, 1, 1, 1, 1, 1}, {6, 1, 1, 1, 1, 1}, {-1, 1, 1, 1, 1, 1},
        {1, 256, 0, 0, 0, 0}, {1, -1, 0, 0, 0, 0}, {1, 0, 256, 0, 0, 0}, {1, 0, 0, -1, 0, 0},
        {1, 0, 0, 0, 256, 0}, {1, 0, 0, 0, 0, 256}, {1, 0, 0, 0, 0, -1}, {4, 0, 0, 0, 0, 999},
        {Integer.MAX_VALUE, 0, 0, 0, 0, 0}, {1, Integer.MIN_VALUE, 0, 0, 0, 0}};
    for (int[] w : wrong) {
      Check.due("feed(" + w[0] + ", " + w[1] + ", ..)",
          x.feed(w[0], w[1], w[2], w[3], w[4], w[5]), -2);
    }
    Check.due("count(7)", x.count(7), 10);
    Check.due("in its order", x.text(), 2);
    Check.due("the way", x.count(9), 2);
  }

  private static void feedFull() {
    Check.begin("promise 26: feed, full");
    LiftSweeps x = new LiftSweeps();
    for (int i = 1; i <= 11; i++) {
      Check.due("feed " + i, x.feed(5, ' ', ' ', ' ', ' ', ' '), 5 * i);
    }
    Check.due("feed(1)", x.feed(1, 'p', 0, 0, 0, 0), 56);
    Check.due("five have no room", x.feed(5, 'a', 'r', 'k', ' ', ' '), -4);
    Check.due("four have", x.feed(4, 'a', 'r', 'k', ' ', 0), 60);
    Check.due("one more has none", x.feed(1, ' ', 0, 0, 0, 0), -4);
    Check.due("BAD is first", x.feed(6, ' ', 0, 0, 0, 0), -2);
    Check.due("BAD is first", x.feed(1, ' ', 0, 0, 0, 256), -2);
    Check.due("count(7)", x.count(7), 60);
    Check.due("text()", x.text(), 1);
    Check.due("count(7)", x.count(7), 0);
  }

  private static void textDoes() {
    Check.begin("promise 27: text, clauses are done");
    LiftSweeps x = new LiftSweeps();
    Check.due("text", Check.text(x, "call 3 7 2;call 5 1 3;give 0 1;tick 5"), 4);
    Check.due("group(0, 0)", x.group(0, 0), 3);
    Check.due("group(0, 1)", x.group(0, 1), 7);
    Check.due("group(0, 2)", x.group(0, 2), 2);
    Check.due("given", x.group(0, 3), 1);
    Check.due("group(1, 3)", x.group(1, 3), 0);
    Check.due("count(8)", x.count(8), 5);
    Check.due("events", x.count(6), 3);
    Check.due("text", Check.text(x, "way 1"), 1);
    Check.due("count(9)", x.count(9), 1);
    Check.due("text", Check.text(x, "regive"), 1);
    Check.due("text", Check.text(x, "tick 99"), 1);
    Check.due("all are there", x.count(5), 2);
    Check.due("text", Check.text(x, "park"), 1);
    Check.due("parks", x.told(0, 7) == -1 && x.told(1, 7) == -1 ? 0 : 1, 1);
    Check.due("text", Check.text(x, "tick 0;tick 00;tick 07"), 3);
    Check.due("count(8)", x.count(8), 111);
    x.build(8, 2);
    Check.due("regive gives", Check.text(x, "way 0;call 2 0 4;call 3 0 4;way 1;regive"), 5);
    Check.due("group(0, 7)", x.group(0, 7), 1);
    Check.due("floors of two digits", x.build(12, 1), 8);
    Check.due("text", Check.text(x, "call 11 10 4"), 1);
    Check.due("group(0, 0)", x.group(0, 0), 11);
    Check.due("group(0, 1)", x.group(0, 1), 10);
    Check.due("a clause of 4 bytes, 12 of them",
        Check.text(x, "park;park;park;park;park;park;park;park;park;park;park;park"), 12);
  }

  private static void textBlanks() {
    Check.begin("promise 27: text, blanks");
    LiftSweeps x = new LiftSweeps();
    Check.due("around", Check.text(x, " \n park\n ; \n way 1 \n"), 2);
    Check.due("none needed", Check.text(x, "way2;tick10;call0 1 1"), 3);
    Check.due("count(8)", x.count(8), 10);
    Check.due("a newline between", Check.text(x, "call\n1\n2\n3"), 1);
    Check.due("no tab", Check.text(x, "way\t1"), -103);
    Check.due("no carriage return", Check.text(x, "park\r\n"), -104);
    Check.due("blanks part words", Check.text(x, "par k"), -100);
    Check.due("blanks part numbers", Check.text(x, "way 0 1"), -106);
    Check.due("blanks alone", Check.text(x, " \n "), -103);
  }

  private static void textFaults() {
    Check.begin("promise 27: text, faults");
    LiftSweeps x = new LiftSweeps();
    String[] texts = {
      "", "0", "call", "104", "call 1", "106", "call 1 2", "108", "call 1 2 ", "109",
      "call 1 2 3;", "111", "call 1 2 3; ", "112", "park;", "105", ";", "100", ";park", "100",
      "park;;park", "105", "park park", "105", "parkpark", "100", "Park", "100", "parK", "100",
      "park 1", "105", "regive 1", "107", "tick", "104", "tick x", "105", "tick;", "104",
      "tick 123", "105", "tick 1234", "105", "tick 007", "105", "tick 99", "1", "way 1 2", "106",
      "give 1", "106", "give 1;", "106", "give 1 2 3", "109", "call 1 2 3 4", "111",
      "12", "100", "123", "100", "walk", "100", "calls 1 2 3", "100", "cal 1 2 3", "100",
      "park;walk", "105", "park;walk 123", "105", "park,", "104", "call 1,2,3", "106",
      "call -1 2 3", "105", "call 1 2 123", "109", "tick1park", "105", "park; park; pork", "112",
      "way 123 ;", "104", "park way 123", "105", "park`", "104", "park{", "104", "way :", "104",
      "way /", "104", "a", "100", "tickpark", "100", "regives", "100", "giv 1 2", "100",
      "call 1 2;call 3 ?", "108", "parkz", "100", "parka", "100", "park9", "104", "tick:1", "104",
      "gark", "100", "zpark", "100", "0park", "100", "wax 1", "100", "tick 1:", "106",
    };
    for (int i = 0; i < texts.length; i += 2) {
      int due = Integer.parseInt(texts[i + 1]);
      if (texts[i].isEmpty()) {
        Check.due("empty", x.text(), -100);
      } else {
        String call = call(texts[i]);
        Check.due(call, Check.text(x, texts[i]), due >= 100 ? -due : due);
      }
      Check.due("the tape is empty", x.count(7), 0);
    }
    Check.due("only tick 99 was done", x.count(8), 99);
    Check.due("nothing else was", x.count(2), 0);
    for (int b : new int[] {0, 1, 9, 11, 31, 33, 47, 58, 60, 96, 123, 127, 128, 200, 255}) {
      x.feed(5, 'p', 'a', 'r', 'k', 0);
      x.feed(1, b, 0, 0, 0, 0);
      Check.due("byte " + b, x.text(), -104);
    }
  }

  private static String call(String text) {
    return "text of '" + text + "'";
  }

  private static void textRefused() {
    Check.begin("promise 27: text, refused clauses");
    LiftSweeps x = new LiftSweeps();
    Check.due("what is refused isn't done", Check.text(x, "call 3 3 1;way 3;give 0 0;park"), 1);
    Check.due("STATE", Check.text(x, "call 1 2 5;call 1 2 4;give 0 0;give 0 1"), 2);
    Check.due("group(0, 3)", x.group(0, 3), 1);
    Check.due("those behind are done", Check.text(x, "call 9 1 1;tick 2"), 1);
    Check.due("count(8)", x.count(8), 2);
    Check.due("a fault behind: nothing is done", Check.text(x, "tick 2;tick 3;tock"), -114);
    Check.due("count(8)", x.count(8), 2);
    for (int i = 1; i < 12; i++) {
      Check.due("call", Check.text(x, "call 0 7 1"), 1);
    }
    Check.due("FULL", Check.text(x, "call 0 7 1;park"), 1);
    Check.due("count(2)", x.count(2), 12);
  }

  private static void textEmpties() {
    Check.begin("promise 27: text, the tape is empty then");
    LiftSweeps x = new LiftSweeps();
    Check.feed(x, "park");
    Check.due("text()", x.text(), 1);
    Check.due("count(7)", x.count(7), 0);
    Check.due("text()", x.text(), -100);
    Check.feed(x, "pork");
    Check.due("text()", x.text(), -100);
    Check.due("count(7)", x.count(7), 0);
    Check.feed(x, "wa");
    x.build(8, 2);
    x.image();
    x.back();
    Check.due("feed", x.feed(3, 'y', ' ', '2', 0, 0), 5);
    Check.due("text()", x.text(), 1);
    Check.due("count(9)", x.count(9), 2);
  }

  private static void event() {
    Check.begin("promise 28: event");
    LiftSweeps x = new LiftSweeps();
    x.tick();
    x.call(1, 2, 1);
    x.call(6, 5, 1);
    x.give(1, 1);
    x.ticks(6);
    int[][] due = {{2, 0, 0, 7}, {1, 0, 0, 4}, {3, 1, 1, 1}, {0, 1, 0, 1}, {0, 0, 0, 1}};
    Check.due("count(6)", x.count(6), 5);
    for (int i = 0; i < due.length; i++) {
      for (int what = 0; what < 4; what++) {
        Check.due("event(" + i + ", " + what + ")", x.event(i, what), due[i][what]);
      }
    }
    Check.due("event(5, 0)", x.event(5, 0), -12);
    Check.due("event(-1, 0)", x.event(-1, 0), -12);
    Check.due("event(MAX, 0)", x.event(Integer.MAX_VALUE, 0), -12);
    Check.due("event(MIN, 0)", x.event(Integer.MIN_VALUE, 0), -12);
    Check.due("event(0, 4)", x.event(0, 4), -2);
    Check.due("event(0, -1)", x.event(0, -1), -2);
    Check.due("BAD is first", x.event(99, 4), -2);
    x.call(9, 9, 9);
    x.give(0, 0);
    Check.due("refused calls are no events", x.count(6), 5);
  }

  private static void eventsLatest() {
    Check.begin("promise 28: event, the latest 20");
    LiftSweeps x = new LiftSweeps();
    for (int i = 0; i < 8; i++) {
      x.call(0, 1, 1);
      x.ticks(20);
      Check.due("count(6)", x.count(6), Math.min(20, 3 * (i + 1)));
    }
    for (int i = 0; i < 20; i++) {
      Check.due("event(" + i + ", 0)", x.event(i, 0), 2 - i % 3);
      Check.due("event(" + i + ", 1)", x.event(i, 1), 7 - i / 3);
    }
    Check.due("event(20, 0)", x.event(20, 0), -12);
    Check.due("event(19, 3)", x.event(19, 3), x.group(1, 5) + x.group(1, 6));
  }
}
