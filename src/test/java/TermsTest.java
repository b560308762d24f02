/**
 * The document's terms, sentence by sentence where they name a bound, what is empty, full or none.
 * The rows are those of Script.
 */
final class TermsTest {
  private TermsTest() {}

  static void run() {
    floorsAndCars();
    carsFigures();
    groups();
    twelve();
    forty();
    ownGroups();
    stops();
    refusalsInOrder();
    kinds();
    waits();
    ends();
    looks();
    room();
    passed();
    waited();
    near();
    light();
    soon();
    leastCost();
    givenAnew();
    regivingGap();
    regivingPark();
    regivingByNumbers();
    demand();
    parking();
    parkingNone();
    sweep();
    longest();
    mean();
    done();
    drawnNumbers();
    drawnRefused();
    inSeeds();
    limitOfWaited();
    tokens();
    numbers();
    faults();
    events();
    told();
    imageKeeps();
    sheets();
    inDoubt();
  }

  // ---- part 1

  private static void floorsAndCars() {
    Script.begin("terms 1: floors 0 .. f - 1, f 2 .. 12, 8 at first").due(
        "count 0 = 8, call 7 0 1 = 0, call 0 7 1 = 1",
        "call {-1,8,MAX,MIN} 0 1 = -2, call 0 {-1,8,MAX,MIN} 1 = -2",
        "build {1,0,-1,13,MAX,MIN} 2 = -2, count 0 = 8",
        "build 2 2 = 8, call 1 0 1 = 0, call 0 1 1 = 1, call {-1,2} 0 1 = -2, call 0 {-1,2} 1 = -2",
        "build 12 2 = 2, call 11 0 1 = 0, call 0 11 1 = 1, call {-1,12} 0 1 = -2",
        "call 0 {-1,12} 1 = -2, build {1,13} 2 = -2, count 0 = 12");
    Script.begin("terms 1: cars 0 .. k - 1, k 1 .. 4, 2 at first").due(
        "count 1 = 2, told {0,1} 3 = 0, told {-1,2,MAX,MIN} 3 = -2",
        "build 8 {0,-1,5,MAX,MIN} = -2, count 1 = 2",
        "build 8 1 = 8, count 1 = 1, told 0 3 = 0, told {-1,1} 3 = -2",
        "build 8 4 = 8, count 1 = 4, told {0,1,2,3} 3 = 0, told {-1,4} 3 = -2");
  }

  private static void carsFigures() {
    Script.begin("terms 1: kind 0 .. 5, figure 0 .. 9, room 1 .. 8, at first 0, 0, 4").due(
        "told {0,1} {0,1} = 0, told {0,1} 2 = 4",
        "car 0 {-1,6,MAX,MIN} 0 4 = -2, car 0 0 {-1,10,MAX,MIN} 4 = -2",
        "car 0 0 0 {0,-1,9,MAX,MIN} = -2",
        "car 0 5 0 4 = 0, told 0 0 = 5, car 0 0 9 4 = 50, told 0 1 = 9, car 0 0 0 8 = 9",
        "told 0 2 = 8, call 0 1 {0,9} = -2, call 0 1 8 = 0, build 8 2, car {0,1} 0 0 1",
        "told 0 2 = 1, call 0 1 2 = -3, call 0 1 1 = 0");
    Script.begin("terms 1: floor, direction, wait 0, not going, no park at first").due(
        "told {0,1} {3,4,5,6} = 0, told {0,1} 7 = -1");
  }

  private static void groups() {
    Script.begin("terms 1: groups have numbers from 0 as they call, unlike floors, size 1 .. 8").due(
        "car 1 0 0 8, group 0 0 = -2, call 3 3 1 = -2, call 3 4 {0,-1,9,MAX,MIN} = -2, count 2 = 0",
        "call 3 4 1 = 0, call {0,7} {0,7} 0 = -2, call 4 4 8 = -2, call 4 3 8 = 1, group 2 0 = -2",
        "count 2 = 2, group 1 2 = 8, group 1 3 = 1");
  }

  private static void twelve() {
    Script.begin("terms 1: 12 groups at most that wait or ride").due("build 2 1, car 0 0 0 8")
        .times(12, "call 0 1 1").due(
            "count 3 = 12, call 0 1 1 = -4, tick = 0, count 4 = 8, count 3 = 4, call 0 1 1 = -4",
            "ticks 2 = 0, call 1 0 1 = -4, tick = 8, count 5 = 8, count 3 = 4")
        .times(8, "call 1 0 1").due("call 1 0 1 = -4, count 2 = 20, group 19 4 = 0, group 20 4 = -2");
  }

  private static void forty() {
    Script s = Script.begin("terms 1: 40 groups at most in all").due("build 2 1, car 0 0 0 8");
    for (int i = 0; i < 5; i++) {
      s.times(8, "call 0 1 1").due("ticks 30");
    }
    s.due("count {2,5} = 40, count {3,4} = 0, call 0 1 1 = -4, group 39 0 = 0",
        "group 40 0 = -2, count 20 = 40, image = 40, back = 40, call 0 1 1 = -4",
        "build 8 2 = 2, call 0 1 1 = 0");
    Script.begin("terms 1: the fortieth may call while others wait").due("build 2 1, car 0 0 0 8")
        .times(4, "call 0 1 {1,1,1,1,1,1,1}", "ticks 40").due("count 2 = 28")
        .times(11, "call 1 0 1").due("count 2 = 39, count 3 = 11, call 1 0 1 = 39, call 1 0 1 = -4")
        .due("ticks 99 = 12, call 1 0 1 = -4");
  }

  private static void ownGroups() {
    Script.begin("terms 1: own groups wait or ride, and are none when there").due(
        "build 8 1, told 0 12 = 0, call 1 2 1, told 0 12 = 1, call 1 4 1, told 0 12 = 2, ticks 3",
        "told 0 8 = 2, told 0 12 = 2, car 0 0 0 4 = -3, ticks 2 = 0, tick = 1, told 0 12 = 1",
        "car 0 0 0 4 = -3, ticks 9 = 1, told 0 12 = 0, car 0 0 0 4 = 0");
  }

  private static void stops() {
    Script.begin("terms 1: stops, those of who waits, of who rides, a park; none").due(
        "told 0 9 = 0, sweep 0 -1 = 0, sweep 0 0 = -12, near 0 0 11 = 0, near 0 1 11 = 0",
        "call 2 5 1, told 0 9 = 4, call 2 7 1, told 0 9 = 4, call 5 0 1, told 0 9 = 36",
        "sweep 0 -1 = 2, ticks 5, told 0 9 = 160, ticks 90, told 0 9 = 0, count 5 = 3",
        "park = 2, told 0 7 = 2, told 0 9 = 4, told 1 7 = 5, told 1 9 = 32, sweep 1 0 = 5",
        "near 0 1 {0,2} = 0, near 0 1 {3,11} = 1");
  }

  private static void refusalsInOrder() {
    Script.begin("terms 1: of more refusals the first that the call names").times(12, "call 0 7 1")
        .due("call 0 1 1 = -4, call 0 1 5 = -3, call 0 0 5 = -2, call 8 1 5 = -2, call 0 1 9 = -2",
            "car 0 6 0 4 = -2, car 2 0 0 4 = -2, car 0 0 0 4 = -3",
            "tick = 0, cost 0 0 = -3, cost 0 2 = -2, give 0 0 = -3, give 0 2 = -2, soonest 0 = -3",
            "would 0 0 0 = -3, would 0 0 2 = -2, would 0 2 0 = -2, soonest 12 = -2",
            "taken 0 1 = -13, taken 0 6 = -2, taken 2 1 = -2, sweep 2 -2 = -2, sweep 0 -2 = -12",
            "event 99 4 = -2, event 99 3 = -12, tells 0 2 0 = -2, tells 0 0 3 = -2, tells 0 0 0 = -11",
            "load 0 2 -1 1 = -2, load 0 0 -1 7 = -2, load 0 0 -1 1 = -11, put 4 -1 0 = -2",
            "put 0 -1 0 = -11, copy 0 -1 4 -1 -1 = -2, copy 0 -1 1 -1 -1 = -11, sheet 0 2 -1 = -2",
            "sheet 0 0 41 = -2, sheet 0 0 -1 = -14, sheet {0,1} 0 2, sheet 2 1 2",
            "load 0 1 -1 1 = -13, load 0 0 -1 1 = -12, copy 0 -1 2 -1 -1 = -13",
            "copy 0 -1 1 -1 -1 = -12, copy 0 0 3 0 1 = -11, copy 3 0 0 0 1 = -11");
    Script.begin("terms 1: nobody has called or boarded, and a part that is none")
        .due("demand 0 {0,1} = -3, demand 8 0 = -2, demand 0 2 = -2, mean {0,1} = -3, mean 2 = -2");
  }

  private static void kinds() {
    Script s = Script.begin("terms 1: a crane's pace, half (cut) of how many ride more");
    s.due("build 8 1");
    for (int riders = 1; riders <= 8; riders++) {
      s.due("build 8 1, car 0 4 0 8, told 0 10 = 3, call 0 7 " + riders + ", told 0 10 = 3, tick",
          "told 0 8 = " + riders, "told 0 10 = " + (3 + riders / 2), "told 0 5 = 3, ticks 3",
          "told 0 6 = 1, told 0 5 = " + (3 + riders / 2), "taken 0 {0,2,4} = 3, taken 0 1 = -13");
    }
    Script.begin("terms 1: a night car's pace by an odd figure, its stay by figure % 3").due(
        "car 0 3 0 4, told 0 10 = 1, told 0 11 = 1, car 0 3 1 4, told 0 10 = 2, told 0 11 = 2",
        "car 0 3 2 4, told 0 10 = 1, told 0 11 = 3, car 0 3 3 4, told 0 10 = 2, told 0 11 = 1",
        "car 0 3 8 4, told 0 10 = 1, told 0 11 = 3, car 0 3 9 4, told 0 10 = 2, told 0 11 = 1");
    Script.begin("terms 1: a guest's stay, its figure more").due(
        "car 0 5 0 4, told 0 11 = 1, car 0 5 9 4, told 0 11 = 10, told 0 10 = 2",
        "car 0 0 9 4, told 0 11 = 1, car 0 1 9 4, told 0 11 = 1, told 0 10 = 1",
        "car 0 2 9 4, told 0 11 = 2, told 0 10 = 3, car 0 4 9 4, told 0 11 = 3, told 0 10 = 3");
  }

  private static void waits() {
    Script.begin("terms 1: wait is 1 less; above 0 then, that is all; at 0 the rest follows").due(
        "car 0 5 9 4, call 0 1 1, tick = 0, group 0 4 = 1, told 0 5 = 10, ticks 8, told 0 5 = 2",
        "tick, told 0 5 = 1, told 0 6 = 0, tick, told 0 5 = 2, told 0 6 = 1, told 0 3 = 0",
        "tick, told 0 5 = 1, told 0 6 = 1, told 0 3 = 0, tick = 1, told 0 3 = 1, told 0 6 = 0",
        "told 0 5 = 10, ticks 9, told 0 5 = 1, tick, told 0 5 = 0, ticks 9, told 0 5 = 0");
    Script.begin("terms 1: a car with nothing to do stays at wait 0").due(
        "ticks {0,1,99} = 0, told {0,1} {3,4,5,6} = 0");
  }

  private static void ends() {
    Script.begin("terms 1: of two floors, from end to end").due(
        "build 2 1, call 0 1 1, call 1 0 1, ticks 3 = 0, told 0 3 = 0, tick = 1, told 0 3 = 1",
        "group 1 4 = 1, told 0 4 = 2, ticks 2 = 0, tick = 1, told 0 3 = 0, told 0 4 = 0",
        "ticks 99 = 0, told 0 3 = 0");
    Script.begin("terms 1: of twelve floors, from end to end").due(
        "build 12 1, call 0 11 1, ticks 23 = 0, tick = 1, told 0 3 = 11, told 0 4 = 0",
        "ticks 9, call 11 0 1, tick, told 0 4 = 2, ticks 22 = 0, tick = 1, told 0 3 = 0",
        "told 0 4 = 0, ticks 99, told 0 3 = 0");
  }

  private static void looks() {
    Script.begin("terms 1: neither direction is good: 0, though it was up").due(
        "call 3 7 1, ticks 3, told 0 3 = 1, told 0 4 = 1, give 0 1, ticks 2, told 0 3 = 2",
        "told 0 4 = 0, told 0 6 = 0, told 0 5 = 0");
    Script.begin("terms 1: from rest the group that waits here, ahead of stops elsewhere").due(
        "build 8 1, call 0 3 1, ticks 20, call 7 0 1, call 2 0 1, call 3 4 1, tick",
        "group 3 4 = 1, told 0 4 = 1");
    Script.begin("terms 1: from rest the nearest stop, of two the lower; none: 0").due(
        "build 8 1, call 0 3 1, ticks 20, tick, told 0 4 = 0, call 5 7 1, call 1 7 1, tick",
        "told 0 4 = 2, build 8 1, call 0 3 1, ticks 20, call 4 7 1, call 1 7 1, tick, told 0 4 = 1");
    Script.begin("terms 1: a park that is reached is none any more").due(
        "call 1 0 1, ticks 30, park = 1, told 0 7 = 1, ticks 2, told 0 7 = 1, told 0 3 = 0",
        "tick, told 0 3 = 1, told 0 7 = -1, told 0 {4,5,6,9} = 0");
  }

  private static void room() {
    Script.begin("terms 1: who boards, all that ride then being no more than the room").due(
        "build 8 1, call 0 7 2, call 0 6 1, call 0 5 2, call 0 4 1, tick, told 0 8 = 4",
        "group {0,1,3} 4 = 1, group 2 4 = 0, oldest 4 = 1");
    Script.begin("terms 1: those that rode before count for the room").due(
        "build 8 1, call 0 7 3, call 1 7 1, call 1 7 1, ticks 4, told 0 3 = 1, told 0 8 = 4",
        "group 1 4 = 1, group 2 4 = 0, oldest 4 = 0");
    Script.begin("terms 1: those that left do not count for the room").due(
        "build 8 1, call 0 1 4, call 1 2 4, ticks 3 = 0, tick = 1, group 1 4 = 1, told 0 8 = 4");
    Script.begin("terms 1: rooms of 1 and of 8").due(
        "build 8 1, car 0 0 0 1, call 0 1 1, call 0 1 1, tick, told 0 8 = 1",
        "build 8 1, car 0 0 0 8, call 0 1 8, call 0 1 1, tick, told 0 8 = 8, group 1 4 = 0");
  }

  private static void passed() {
    Script.begin("terms 1: passed, only when one of a lesser number stays").due(
        "build 8 1, oldest 4 = 0, call 0 7 4, call 0 7 1, tick, oldest 4 = 0",
        "build 8 1, call 0 7 2, call 0 7 3, call 0 7 1, tick, oldest 4 = 1",
        "build 8 1, call 0 7 2, call 0 7 3, call 0 7 1, call 0 7 1, tick, oldest 4 = 2");
    Script.begin("terms 1: passed, not by who stays for another direction or car").due(
        "build 8 2, call 0 3 1, ticks 20, call 3 4 1, call 3 0 1, call 3 5 1, ticks 2",
        "group {1,3} 4 = 1, group 2 4 = 0, oldest 4 = 0");
  }

  private static void waited() {
    Script.begin("terms 1: waited, from the tick as it stood to that of boarding or to now").due(
        "ticks 5, call 0 3 1, call 7 0 1, give 1 1, group {0,1} 6 = 0, group {0,1} 5 = 5, tick",
        "group 0 4 = 1, group {0,1} 6 = 1, ticks 10, group 0 4 = 2, group 0 6 = 1",
        "group 1 4 = 0, group 1 6 = 11, ticks 4, group 1 4 = 1, group 1 6 = 15, ticks 30",
        "group 1 4 = 2, group 1 6 = 15, group 1 5 = 5");
  }

  // ---- part 2

  private static void near() {
    Script.begin("terms 2: near, greater than the room or just as great").due(
        "car 1 0 0 2, call 3 0 3, call 3 0 2, way 0, cost 0 1 = 999, cost 1 1 = 3",
        "way 1, cost 0 1 = 999, cost 1 1 = 3, way 2, cost 0 1 = 999, cost 1 1 = 7");
    Script.begin("terms 2: near, 2 f more the other way alone, not where it is, not from rest").due(
        "build 12 1, call 0 1 1, ticks 9 = 1, call 5 6 1, call 2 11 1, call 1 11 1, call 0 11 1",
        "told 0 3 = 1, told 0 4 = 0, cost 4 0 = 1, cost 3 0 = 0, cost 1 0 = 4, tick, told 0 4 = 1",
        "told 0 3 = 1, cost 4 0 = 25, cost 1 0 = 4, ticks 3, told 0 3 = 2, group 2 4 = 1",
        "cost 4 0 = 26, cost 1 0 = 3, call 2 0 1, cost 5 0 = 0");
    Script.begin("terms 2: near, going down").due(
        "build 12 1, call 11 0 1, ticks 28, told 0 4 = 2, told 0 3 = 9, call 10 0 1, call 9 0 1",
        "call 11 0 1, call 0 1 1, cost 1 0 = 25, cost 2 0 = 0, cost 3 0 = 26, cost 4 0 = 9");
  }

  private static void light() {
    Script.begin("terms 2: light, 10 for each of the others that wait or ride, none that is there")
        .due("car {0,1} 0 0 8, call 0 1 8, call 1 7 7, call 7 0 1, way 1, cost 0 0 = 80",
            "cost 1 0 = 91, cost 2 0 = 157, cost 2 1 = 7, cost 1 1 = 1, tick, group 0 4 = 1",
            "cost 1 0 = 91, ticks 3 = 1, group 1 4 = 1, cost 2 0 = 76, cost 2 1 = 7");
  }

  private static void soon() {
    Script.begin("terms 2: soon, 120 at most").due(
        "build 12 1, car 0 4 0 8, way 2, call {0,0,0} 11 8, would 2 0 0 = 233, cost 2 0 = 120",
        "cost 0 0 = 1, ticks 99, ticks 12, would 2 0 0 = 122, cost 2 0 = 120, tick",
        "would 2 0 0 = 121, cost 2 0 = 120, tick, would 2 0 0 = 120, cost 2 0 = 120, tick",
        "would 2 0 0 = 119, cost 2 0 = 119, ticks 99, cost 2 0 = 20, ticks 19, cost 2 0 = 1",
        "tick, cost 2 0 = -3");
  }

  private static void leastCost() {
    Script.begin("terms 2: to the car of least cost, of like ones the first, by each way").due(
        "build 8 4, call 0 7 1, group 0 3 = 0, way 1, call 0 7 1, group 1 3 = 1, call 0 7 1",
        "group 2 3 = 2, way 2, call 0 7 1, group 3 3 = 0, car 3 0 0 8, call 0 7 5, group 4 3 = 3");
  }

  private static void givenAnew() {
    Script.begin("terms 2: given anew twice at most").due(
        "build 8 3, call 5 0 1, group 0 7 = 0, give 0 1 = 1, group 0 7 = 1, give 0 1 = -3",
        "give 0 0 = 2, group 0 7 = 2, give 0 {0,1,2} = -3, call 5 0 4, group 1 3 = 0, way 1",
        "cost 0 0 = 45, cost 0 1 = 5, cost 1 0 = 15, cost 1 1 = 5, regive = 1, group 0 3 = 0",
        "group 1 3 = 1, group 1 7 = 1, regive = 0");
    Script.begin("terms 2: a park is none any more for the car to which is given, by each call").due(
        "call {3,3} 0 1, ticks 40 = 2, park = 1, told 0 7 = 3, call 0 7 1 = 2, told 0 7 = -1",
        "park = 1, told 1 7 = 3, give 2 1 = 1, told 1 7 = -1, told 0 7 = -1");
  }

  private static void regivingGap() {
    // A car on floor 1 that costs just one less than the one on floor 0.
    Script.begin("terms 2: gap 1, one less is enough, none less is not").due(
        "car 0 0 0 1, call 0 1 2, ticks 9, car 0 0 0 4, told 1 3 = 1, call 1 5 1, group 1 3 = 1",
        "give 1 0 = 1, cost 1 0 = 1, cost 1 1 = 0, gap 2, regive = 0, gap 1, regive = 1",
        "group 1 3 = 1, group 1 7 = 2, build 8 2, call 0 7 1, give 0 1 = 1, cost 0 {0,1} = 0",
        "regive = 0, group 0 3 = 1");
    Script.begin("terms 2: gap 20, twenty less is enough, nineteen is not").due(
        "call 0 7 2, call 0 7 1, group 1 3 = 0, way 1, gap 20, cost 1 0 = 20, cost 1 1 = 0",
        "regive = 1, group 1 3 = 1, group 0 3 = 0, way 0, build 8 2",
        "car 0 0 0 1, call 0 1 2, ticks 9, car 0 0 0 4, call {0,0} 7 2, group {1,2} 3 = 0, way 1",
        "cost 2 0 = 20, cost 2 1 = 1, regive = 0, gap 19, regive = 1, group 1 3 = 1, group 2 3 = 0");
    Script.begin("terms 2: gap 1 .. 20, 3 at first").due(
        "count 10 = 3, gap {0,-1,21,MAX,MIN} = -2, count 10 = 3, gap 1 = 3, gap 20 = 1, gap 3 = 20");
  }

  private static void regivingPark() {
    Script.begin("terms 2: regiving, a park is none any more").due(
        "call {3,3} 0 1, ticks 60, call 0 7 2, park = 1, told 1 7 = 3, call 0 6 1, group {2,3} 3 = 0",
        "way 1, regive = 1, group 2 3 = 1, told 1 7 = -1");
    Script.begin("terms 2: regiving, 12 wait").times(12, "call 0 7 1").due("way 1, gap 20")
        .due("regive = 5, group {0,1,2,3,4} 3 = 1, group {5,6,7,8,9,10,11} 3 = 0, gap 10, regive = 1")
        .due("group 5 3 = 1, regive = 0, gap 1, regive = 0");
    Script.begin("terms 2: regiving, nobody waits").due(
        "regive = 0, call 0 7 1, call 0 7 1, way 1, tick, count 4 = 2, regive = 0, ticks 20 = 2",
        "regive = 0");
  }

  private static void regivingByNumbers() {
    Script.begin("terms 2: regiving by numbers, of like costs the first car").due(
        "build 8 4, call {0,0,0,0} 7 1, group {0,1,2,3} 3 = 0, way 1, regive = 3",
        "group 0 3 = 1, group 1 3 = 2, group 2 3 = 3, group 3 3 = 0, event 0 1 = 2, event 2 1 = 0");
  }

  private static void demand() {
    Script.begin("terms 2: demand, how many calls came from a floor, not those refused").due(
        "count {20,27} = 0, count 28 = -1, call 0 1 4 = 0, call 0 1 5 = -3",
        "call 0 0 1 = -2, count 20 = 1, demand 0 {0,1} = 1, demand 1 0 = 0",
        "demand 1 1 = 1, call 1 0 1, demand 0 0 = 1, demand {0,1} 1 = 2, ticks 50 = 2",
        "demand {0,1} 1 = 2, call {1,1} 0 1, demand 1 0 = 3, demand 1 1 = 4, demand 0 0 = 1");
  }

  private static void parking() {
    Script.begin("terms 2: parking, more cars than floors").due(
        "build 2 4, call {0,0,0,0} 1 4, way 1, give 1 1, give 2 2, give 3 3, ticks 20 = 4",
        "told {0,1,2,3} 3 = 1, park = 1, told 0 7 = 0, told {1,2,3} 7 = -1, park = 1, told 1 7 = 0");
    Script.begin("terms 2: parking, a floor without demand; a car that is there").due(
        "build 8 3, call 0 5 1, ticks 20, told 0 3 = 5, park = 1, told 0 7 = 0, told {1,2} 7 = -1",
        "ticks 20, told 0 3 = 0, park = 0, told {0,1,2} 7 = -1");
    Script.begin("terms 2: parking, the greatest demand first, of like ones the lower").due(
        "build 12 4, call 11 0 1, call 6 0 1, call {2,2} 0 1, call 6 0 1, call 11 0 1, call 9 0 1",
        "ticks {99,99}, count 5 = 7, park = 4, told 0 7 = 2, told 1 7 = 6, told 2 7 = 11, told 3 7 = 9");
  }

  private static void parkingNone() {
    Script.begin("terms 2: parking, not who has own groups, a park, or goes").due(
        "build 8 4, call 5 0 1, ticks 3, give 0 1, told 0 6 = 1, park = 1, told {0,1,3} 7 = -1",
        "told 2 7 = 5, park = 1, told 3 7 = 5, park = 0");
    Script.begin("terms 2: parking, while it stays").due(
        "build 8 1, call 1 0 1, ticks 6 = 1, told 0 5 = 1, park = 1, tick, told 0 6 = 1, told 0 4 = 1");
    Script.begin("terms 2: parking, nobody has called").due("park = 0, told {0,1} 7 = -1");
  }

  private static void sweep() {
    Script.begin("terms 2: sweep, where it is, those ahead, those behind, each the nearest first")
        .due("build 12 1, call 0 5 1, ticks 20, call {11,3,5,8,0,6,4} 1 1", "told 0 4 = 0",
            "sweep 0 -1 = 7, sweep 0 0 = 5, sweep 0 1 = 6, sweep 0 2 = 8, sweep 0 3 = 11",
            "sweep 0 4 = 4, sweep 0 5 = 3, sweep 0 6 = 0, sweep 0 {7,-2,MAX,MIN} = -12, ticks 4",
            "told 0 3 = 4, told 0 4 = 2, sweep 0 -1 = 6, sweep 0 0 = 3, sweep 0 1 = 1",
            "sweep 0 2 = 0, sweep 0 3 = 6, sweep 0 4 = 8, sweep 0 5 = 11, sweep 0 6 = -12");
  }

  private static void longest() {
    Script.begin("terms 2: longest and oldest, none, and of like ones the least number").due(
        "oldest {0,1,2,3} = -1, call 1 7 1, call 1 6 1, oldest 0 = 0, oldest 1 = 0",
        "oldest {2,3} = -1, ticks 2, oldest 1 = 2, oldest {2,3} = -1, tick, count 4 = 2",
        "oldest {0,1} = -1, oldest 2 = 0, oldest 3 = 3, call 0 7 1, oldest 0 = 2, oldest 2 = 0");
  }

  private static void mean() {
    Script.begin("terms 2: mean, nobody has boarded, in lowest terms, not who waits").due(
        "mean {0,1} = -3, call 1 0 1, mean {0,1} = -3, ticks 2, mean 0 = -3, tick, mean 0 = 3",
        "mean 1 = 1, ticks 30, call 0 1 1, call 7 0 1, tick, mean 0 = 2, mean 1 = 1, ticks 31",
        "count 5 = 3, group 2 6 = 17, mean 0 = 7, mean 1 = 1, call 0 1 1, tick, mean 0 = 11",
        "mean 1 = 2, build 8 2, mean {0,1} = -3");
  }

  private static void done() {
    Script.begin("terms 2: done, nobody waits or rides: 0; parks do not matter").due(
        "done {0,2} = 0, done 1 = -1, call 2 0 1, done 0 = 10, done 1 = 5, ticks 9, done 0 = 1",
        "tick = 1, done 0 = 0, done 1 = 5, park = 1, done 0 = 0, done {-1,3} = -2");
    // The longest that twelve groups can take: up with eight, back alone.
    Script.begin("terms 2: done, far below 2500").due("build 12 1, car 0 4 0 8")
        .times(12, "call 0 11 8").due("done 0 = 1357, done 1 = 1277, done 2 = 0")
        .due("would 11 0 0 = 1277, would 11 0 1 = 1357, soonest 11 = 0, drawn 5 6 0 = 1357");
  }

  /** What is drawn by a seed, with longs in place of the ints that wrap around. */
  private static long[][] draw(int seed, int n, int f) {
    long z = seed & 0xFFFFFFFFL;
    long[][] calls = new long[n][3];
    for (long[] call : calls) {
      long[] drawn = new long[3];
      for (int k = 0; k < 3; k++) {
        z = (z * 1103515245L + 12345L) % (1L << 32);
        drawn[k] = z / 512;
      }
      call[0] = drawn[0] % f;
      call[1] = drawn[1] % (f - 1);
      call[1] += call[1] >= call[0] ? 1 : 0;
      call[2] = 1 + drawn[2] % 4;
    }
    return calls;
  }

  private static void drawnNumbers() {
    int[] seeds = {0, 1, -1, 7, Integer.MAX_VALUE, Integer.MIN_VALUE, Integer.MAX_VALUE - 1,
        Integer.MIN_VALUE + 1, 1 << 30, -12345, 1103515245};
    for (int f : new int[] {2, 3, 8, 12}) {
      Check.begin("terms 2: drawn by seeds at both ends, on " + f + " floors");
      for (int seed : seeds) {
        LiftSweeps x = new LiftSweeps();
        LiftSweeps y = new LiftSweeps();
        x.build(f, 2);
        y.build(f, 2);
        long[][] calls = draw(seed, 6, f);
        for (int n = 0; n <= 6; n++) {
          for (int what = 0; what < 3; what++) {
            Check.due("drawn(" + seed + ", " + n + ", " + what + ")", x.drawn(seed, n, what),
                y.done(what));
          }
          if (n < 6) {
            Check.due("a call", y.call((int) calls[n][0], (int) calls[n][1], (int) calls[n][2]), n);
          }
        }
        Check.due("nobody has called", x.count(2), 0);
      }
    }
  }

  private static void drawnRefused() {
    Script.begin("terms 2: drawn, 12 wait: nothing is added").times(12, "call 0 7 1")
        .due("drawn {0,5,MAX} {0,1,6} 0 = 76, done 0 = 76, done 1 = 61, drawn {0,5,MIN} 6 1 = 61");
    Script s = Script.begin("terms 2: drawn, 40 have called: nothing is added");
    s.due("build 2 1, car 0 0 0 8");
    for (int i = 0; i < 5; i++) {
      s.times(8, "call 0 1 1").due("ticks 30");
    }
    s.due("drawn {0,5,MAX} {0,1,6} 0 = 0, drawn 3 6 1 = 3, drawn 3 6 2 = 0");
    Script.begin("terms 2: drawn, no car has room").due("build 8 1, car 0 0 0 1, drawn 0 1 {0,2} = 0",
        "drawn 0 1 1 = -1, chance 0 1 {0,999} 0 = 0, chance 0 1 {0,999} 1 = 1",
        "drawn 3 {-1,7,MAX,MIN} 0 = -2, drawn 3 1 {-1,3,MAX,MIN} = -2");
  }

  private static void inSeeds() {
    Script s = Script.begin("terms 2: in m seeds, each 1 more, over the end of the ints");
    s.due("build 10 1, chance 1 {0,-1,7,MAX,MIN} 9 0 = -2, chance 1 1 {-1,1000,MAX,MIN} 0 = -2",
        "chance 1 1 9 {-1,2,MAX,MIN} = -2");
    int[] seeds = {0, -3, Integer.MAX_VALUE, Integer.MAX_VALUE - 2, Integer.MIN_VALUE};
    for (int seed : seeds) {
      int[] waited = new int[6];
      for (int i = 0; i < 6; i++) {
        waited[i] = s.said("drawn " + (seed + i) + " 3 1");
      }
      for (int m = 1; m <= 6; m++) {
        int w = waited[m - 1];
        chanceOf(s, seed, m, w, waited);
        chanceOf(s, seed, m, w - 1, waited);
      }
      s.due("chance " + seed + " 6 0 0 = 0", "chance " + seed + " 6 0 1 = 1");
      s.due("chance " + seed + " 6 999 {0,1} = 1");
    }
  }

  private static void chanceOf(Script s, int seed, int m, int w, int[] waited) {
    int good = 0;
    for (int i = 0; i < m; i++) {
      good += waited[i] <= w ? 1 : 0;
    }
    int by = 1;
    for (int d = 2; d <= m; d++) {
      by = good % d == 0 && m % d == 0 ? d : by;
    }
    s.due("chance " + seed + " " + m + " " + w + " 0 = " + good / by);
    s.due("chance " + seed + " " + m + " " + w + " 1 = " + m / by);
  }

  private static void limitOfWaited() {
    // Nine trips of 116 ticks and 4 more are ahead of the tenth group; 30 have called before, so that
    // nobody is drawn.
    int[][] cases = {{48, 1000, 0, 0}, {49, 999, 1, 0}, {50, 998, 1, 1}};
    for (int[] c : cases) {
      Script.begin("terms 2: the longest waited " + c[1] + ", w is 999 or 998")
          .due("build 12 1, car 0 0 0 8")
          .times(5, "call 0 1 {1,1,1,1,1,1}", "ticks 40").due("car 0 4 0 8").times(9, "call 0 11 8")
          .due("ticks " + c[0], "call 0 11 8 = 39, done 1 = " + c[1], "drawn 5 3 1 = " + c[1],
              "chance 5 {1,2,6} 999 0 = " + c[2], "chance 5 {1,2,6} 998 0 = " + c[3],
              "chance 5 {1,2,6} {998,999} 1 = 1");
    }
  }

  // ---- part 3

  private static void tokens() {
    Script.begin("terms 3: the tape, 60 bytes at most").feed(" ".repeat(55))
        .due("count 7 = 55, feed 5 32 32 32 32 256 = -2, feed 5 32 32 32 32 32 = 60")
        .due("feed {1,5} 32 32 32 32 32 = -4, feed {0,6} 32 32 32 32 32 = -2, count 7 = 60")
        .text("", -160).text(" ".repeat(56) + "tick", -160).text(" ".repeat(59) + "!", -159)
        .text(" ".repeat(59) + "a", -159).text(" ".repeat(56) + "park", 1)
        .text("park;".repeat(12), -160).text("way 0;".repeat(9) + "tick 7", 10)
        .due("count 8 = 7, count 7 = 0").text("", -100);
    Script s = Script.begin("terms 3: blanks 32 and 10, the sign, and bytes that begin no token");
    for (int b = 0; b < 256; b++) {
      if (b % 40 == 0) {
        s = Script.begin("terms 3: bytes " + b + " and on behind a word, between word and number");
      }
      boolean blank = b == 32 || b == 10;
      boolean letter = b >= 'a' && b <= 'z';
      boolean digit = b >= '0' && b <= '9';
      s.text("park" + (char) b, blank ? 1 : letter ? -100 : b == ';' ? -105 : -104);
      s.text("way" + (char) b + "1", blank || b == '0' ? 1 : letter ? -100 : digit ? 0 : -103);
      s.text((char) b + "park", blank ? 1 : -100);
    }
  }

  private static void numbers() {
    Script.begin("terms 3: numbers, two digits at most").text("tick 0", 1).text("tick 00", 1)
        .text("tick 09", 1).text("tick 99", 1).due("count 8 = 108").text("tick 100", -105)
        .text("tick 000", -105).text("tick 1 00", -107).text("tick1", 1).text("tick 0123456789", -105)
        .due("count 8 = 109");
    Script.begin("terms 3: just as many numbers as the word asks").text("call 1 2 3", 1)
        .text("call 1 2", -108).text("call 1 2 3 4", -111).text("call", -104).text("give 0 1", 1)
        .text("give 0", -106).text("give 0 0 0", -109).text("tick", -104).text("tick 1 1", -107)
        .text("way", -103).text("way 0 0", -106).text("regive", 1).text("regive 0", -107)
        .text("park", 1).text("park 0", -105).due("count 2 = 1, count 8 = 0");
  }

  private static void faults() {
    Script.begin("terms 3: a text that ends too early, one that is empty").text("", -100)
        .text(" ", -101).text("\n\n", -102).text("park;", -105).text("park; ", -106)
        .text("tick ", -105).text("tick 1;", -107).text(";", -100).text(" ;", -101)
        .text("park;;park", -105).text("park park", -105).text("parks", -100).text("par", -100);
    Script.begin("terms 3: by a fault nothing is done, and the tape is empty")
        .text("call 1 2 3;tick 5;x", -118).due("count {2,3,6,7,8} = 0").text("tick 5", 1);
    Script.begin("terms 3: those that would be refused aren't done")
        .text("tick 99;way 3;call 0 0 1;call 0 1 5;give 0 0;give 9 9", 1)
        .text("call 0 1 4;give 0 0;give 0 1;give 0 0;give 0 1", 3).due("group 0 7 = 2, count 8 = 99")
        .text("way 9;way 3", 0).text("call 99 0 1;call 0 99 1;call 0 1 99", 0);
  }

  private static void events() {
    Script.begin("terms 3: events, the latest 20; none").due("event {0,1,-1} 0 = -12, count 6 = 0")
        .times(12, "call 5 0 1").due("count 6 = 12, event 11 0 = 0, event 12 0 = -12")
        .due("give {0,1,2,3,4,5,6} 1 = 1, count 6 = 19, event 18 1 = 0, event 19 0 = -12")
        .due("give 7 1 = 1, count 6 = 20, event 19 {0,1,2,3} = 0, event 20 0 = -12, give 8 1 = 1")
        .due("count 6 = 20, event 19 1 = 1, event 20 0 = -12, event 0 0 = 3, event 0 1 = 8")
        .due("event 0 2 = 1, event 0 3 = 0, give {9,10,11} 1 = 1, give {0,1,2,3,4,5,6,7} 0 = 2")
        .due("event 19 0 = 3, event 19 1 = 0, give 8 0 = 2, event 19 1 = 1, event 0 1 = 8");
    Script.begin("terms 3: events, not of what is thought").due("call 3 0 1, way 2, done {0,1,2}",
        "would 0 {0,1} {0,1}, soonest 0, drawn 3 6 0, chance 3 6 9 0, cost 0 {0,1}, film 0 0 30",
        "tells 0 0 {1,2}, count 6 = 1, event 0 0 = 0, count {4,5,8} = 0");
  }

  private static void told() {
    Script.begin("terms 3: told, 30 numbers at most, none at all").due(
        "sheet 0 0 30, sheet 1 1 31, sheet 2 1 0, sheet 3 0 40, tells 0 0 0 = -1, tells 0 0 1 = 63",
        "tells 0 0 2 = 1023, tells {1,3} 0 {0,1,2} = -2, tells 2 0 0 = -1, tells 2 0 1 = 63",
        "tells 2 0 2 = 1023, call 7 0 1, tells 2 0 0 = -1, tells 0 0 0 = 2, tells 0 0 {1,2} = 0",
        "tells 0 1 0 = -1, put 0 29 1, tells 0 1 0 = 29, put 0 0 1, tells 0 1 0 = 0",
        "film 1 0 30 = 30, tells 1 0 0 = -1, film 1 0 31 = -2, tells 1 0 0 = -1, film 1 0 0 = 0",
        "tells 1 0 1 = 63, sheet 1 1 1, put 1 0 {256,MAX,MIN,-1}, tells 1 0 0 = 0, put 1 0 0",
        "tells 1 0 0 = -1");
  }

  private static void imageKeeps() {
    Script.begin("terms 3: an image keeps all but sheets and the tape").due("back = -3, image = 0")
        .due("call 5 0 1, way 2, gap 9, ticks 3, sheet 0 0 2").feed("par")
        .due("back = 0, count {2,3,6,8,9} = 0, count 10 = 3, told 0 3 = 0, count 7 = 3, put 0 1 7 = 1")
        .feed("k").text("", 1).due("build 5 3, call 4 0 1, image = 1, build 12 1, back = 1")
        .due("count 0 = 5, count 1 = 3, group 0 0 = 4, count 24 = 1, put 0 1 7 = 1, put 0 2 7 = -12");
  }

  private static void sheets() {
    Script.begin("terms 3: sheets 0 .. 3, missing at first, of 0 .. 40 bytes or ints").due(
        "put {0,1,2,3} 0 1 = -11, put {-1,4,MAX,MIN} 0 1 = -2, sheet {-1,4,MAX,MIN} 0 1 = -2",
        "sheet 0 {-2,2,MAX,MIN} 1 = -2, sheet 0 {0,1} {41,MAX} = -2, sheet 0 {0,1} {-1,MIN} = -14",
        "put 0 0 1 = -11, sheet 0 0 40 = 1, put 0 {0,39} 1 = 1, put 0 {-1,40,MAX,MIN} 1 = -12",
        "sheet 3 1 40 = 1, put 3 {0,39} {MAX,MIN} = 1, put 3 {-1,40,MAX,MIN} 1 = -12",
        "sheet 0 {0,1} 0 = 1, put 0 {0,-1} 1 = -12, sheet 0 -1 {-1,0,41,MIN,MAX} = 1, put 0 0 1 = -11");
    Script.begin("terms 3: a sheet of size 0, a missing one").due(
        "sheet {0,1} 1 0, copy 0 0 1 0 0 = 0, copy 0 0 0 0 0 = 0, copy 0 0 1 0 1 = -12",
        "copy 0 1 1 0 0 = -12, copy 0 0 1 1 0 = -12, load 0 1 0 0 = 0, load 0 1 0 1 = -12",
        "tells 0 0 0 = -1, load 2 1 0 {0,1} = -11, tells 2 0 0 = -11, copy {0,2} 0 2 0 0 = -11");
  }

  // ---- in doubt

  private static void inDoubt() {
    Script.begin("in doubt: passed is 1 more, however many stay behind").due(
        "build 8 1, call 0 7 2, call 0 7 3, call 0 7 4, call 0 7 1, tick, group {0,3} 4 = 1",
        "group {1,2} 4 = 0, oldest 4 = 1, done 2 = 1");
    Script.begin("in doubt: regiving by the costs behind the earlier ones").due(
        "call 0 1 2, call {0,0} 2 1, way 1, gap 20, cost 0 0 = 20, cost 1 0 = 30, regive = 1",
        "group 0 3 = 1, group {1,2} 3 = 0");
    Script.begin("in doubt: would, twice at most does not matter").due(
        "call 3 0 1, give 0 1 = 1, give 0 0 = 2, give 0 1 = -3, would 0 {0,1} 0 = 7",
        "would 0 {0,1} 1 = 14, group 0 7 = 2, group 0 3 = 0, soonest 0 = 0");
    Script.begin("in doubt: longest of all that boarded by then, drawn or not").due(
        "build 12 1, call {0,0} 11 4, ticks 99 = 2, oldest 2 = 1, oldest 3 = 47, done 1 = 47",
        "drawn {1,2,3} {0,1} 1 = 47, chance {1,2,3} 1 46 0 = 0");
  }
}
