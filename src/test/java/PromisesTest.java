/**
 * Each promise's own bounds and refusals, the last number that is taken and the first that is not.
 * Refused calls are made where an object holds something of everything, so that what they changed
 * would be seen. The rows are those of Script.
 */
final class PromisesTest {
  private static final String ODD = "MAX,MIN";

  private PromisesTest() {}

  static void run() {
    newObject();
    build();
    car();
    told();
    taken();
    call();
    group();
    wayAndGap();
    cost();
    give();
    regive();
    ticks();
    park();
    demand();
    sweepAndNear();
    oldestAndMean();
    done();
    would();
    soonest();
    drawnAndChance();
    feed();
    text();
    event();
    tells();
    film();
    load();
    imageAndBack();
    count();
    sheet();
    put();
    copy();
  }

  /**
   * Three cars of unlike kinds; group 0 is there, 1 rides in car 0, 2 waits and was given twice, 3
   * waits and only car 1 has room for it, 4 waits; car 2 has a park; 13 events by tick 13, an image,
   * a tape, all sorts of sheets (3 is missing).
   */
  private static Script rich(String sentence) {
    return Script.begin(sentence).due(
        "build 10 3, car 0 0 1 4, car 1 4 2 8, car 2 5 3 2, gap 5, way 1, call 1 0 1, image = 1",
        "ticks 9 = 1, call 1 9 3, give 1 1 = 1, give 1 0 = 2, ticks 4, call 8 0 2, group 2 3 = 1",
        "give 2 0 = 1, give 2 1 = 2, call 7 0 5, group 3 3 = 1, call 3 5 1, group 4 3 = 2, give 4 0 = 1",
        "park = 1, told 2 7 = 1, way 0, group 0 4 = 2, group 1 4 = 1, group {2,3,4} 4 = 0",
        "sheet 0 0 6, sheet 1 1 31, sheet 2 1 0, put 0 {0,4} 3, put 0 {2,5} 1, put 1 30 9")
        .feed("way 2;p");
  }

  private static void newObject() {
    Script.begin("promise 1: 8 floors, 2 cars, nobody").due(
        "count 0 = 8, count 1 = 2, count {2,3,4,5,6,7,8,9} = 0, count 10 = 3",
        "count {20,21,22,23,24,25,26,27} = 0, count {28,29,30,31} = -1, told {0,1} 2 = 4",
        "told {0,1} {0,1,3,4,5,6,8,9,12} = 0, told {0,1} 7 = -1, told {0,1} 10 = 2, told {0,1} 11 = 1",
        "group 0 0 = -2, cost 0 0 = -2, give 0 0 = -2, would 0 0 0 = -2, soonest 0 = -2, regive = 0",
        "park = 0, tick = 0, ticks 9 = 0, demand 0 0 = -3, mean 0 = -3, oldest {0,1,2,3} = -1",
        "oldest 4 = 0, done {0,2} = 0, done 1 = -1, drawn 1 0 0 = 0, drawn 1 0 1 = -1",
        "event 0 0 = -12, back = -3, put {0,1,2,3} 0 0 = -11, sweep {0,1} -1 = 0")
        .text("", -100);
  }

  private static void build() {
    rich("promise 2: build, f 2 .. 12, k 1 .. 4").due(
        "build {1,0,-1,13," + ODD + "} 2 = -2, build 5 {0,-1,5," + ODD + "} = -2, build 1 5 = -2",
        "build 2 1 = 10, build 12 1 = 2, build 2 4 = 12, build 12 4 = 2, build 7 2 = 12");
    rich("promise 2: build, all as at first but the way, the gap, what is not listed").due(
        "way 2 = 0, build 10 3 = 10, told {0,1,2} {0,1,3,4,5,6,8,9,12} = 0, told {0,1,2} 2 = 4",
        "told {0,1,2} 7 = -1, count {2,3,4,5,6,8} = 0, count 9 = 2, count 10 = 5, count 7 = 7",
        "count {20,21,22,23,24,25,26,27,28,29} = 0, count 30 = -1, oldest {0,1,2,3} = -1",
        "oldest 4 = 0, mean 0 = -3, demand 1 0 = -3, event 0 0 = -12, put 0 5 1 = 1, back = 1");
  }

  private static void car() {
    rich("promise 3: car, its bounds").due(
        "car {-1,3," + ODD + "} 0 0 4 = -2, car 2 {-1,6," + ODD + "} 0 4 = -2",
        "car 2 0 {-1,10," + ODD + "} 4 = -2, car 2 0 0 {0,-1,9," + ODD + "} = -2",
        "car {0,1} 0 0 4 = -3, car {0,1} 6 0 4 = -2, car {0,1} 0 10 4 = -2, car {0,1} 0 0 0 = -2",
        "car 2 0 0 1 = 53, car 2 5 9 8 = 0, car 2 1 0 1 = 59, told 2 0 = 1, told 2 1 = 0",
        "told 2 2 = 1, told 2 7 = 1, told {0,1} {0,1,2}");
    Script.begin("promise 3: car, own groups that wait, that ride, none when they are there").due(
        "call 0 1 1, car 0 1 0 4 = -3, tick, car 0 1 0 4 = -3, ticks 3 = 1, car 0 1 0 4 = 0",
        "call 3 1 1, group 1 3 = 0, car 0 2 9 4 = -3, give 1 1 = 1, car 0 2 9 4 = 10",
        "car 1 2 9 4 = -3");
  }

  private static void told() {
    rich("promise 4: told, its bounds").due(
        "told {-1,3," + ODD + "} {0,7,12} = -2, told 0 {-1,13," + ODD + "} = -2, told -1 13 = -2",
        "told 0 0 = 0, told 0 1 = 1, told 0 2 = 4, told 0 3 = 1, told 0 4 = 1, told 0 5 = 2",
        "told 0 6 = 1, told 0 7 = -1, told 0 8 = 3, told 0 9 = 520, told 0 10 = 2, told 0 11 = 1",
        "told 0 12 = 2, told 1 0 = 4, told 1 8 = 0, told 1 9 = 384, told 1 10 = 3, told 1 12 = 2",
        "told 2 7 = 1, told 2 9 = 2, told 2 11 = 4, told 2 12 = 0");
  }

  private static void taken() {
    Script s = rich("promise 5: taken, its bounds").due(
        "taken {-1,3," + ODD + "} {0,6} = -2, taken 0 {-1,6," + ODD + "} = -2",
        "taken 0 0 = 2, taken 0 {1,2,3,4,5} = -13, taken 1 {0,2,4} = 3, taken 1 {1,3,5} = -13",
        "taken 2 {0,5} = 2, taken 2 {1,2,3,4} = -13");
    s.due("build 8 1, car 0 3 1 4, taken 0 {0,1,3} = 2, taken 0 {2,4,5} = -13, car 0 1 1 4",
        "taken 0 {0,1} = 1, taken 0 {2,3,4,5} = -13, car 0 2 1 4, taken 0 {0,2} = 3",
        "taken 0 {1,3,4,5} = -13, car 0 4 0 8, call 0 7 8, tick, told 0 10 = 7, taken 0 {0,2,4} = 3");
  }

  private static void call() {
    rich("promise 6: call, its bounds").due(
        "call {-1,10," + ODD + "} 0 1 = -2, call 0 {-1,10," + ODD + "} 1 = -2, call {0,9} {0,9} 0 = -2",
        "call 0 0 1 = -2, call 9 9 1 = -2, call 0 9 {-1,9," + ODD + "} = -2, call 0 9 1 = 5",
        "call 9 0 8 = 6, count 29 = 1");
    Script.begin("promise 6: call, no car has room, full").due(
        "car 0 0 0 1, car 1 0 0 3, call 0 7 {4,5,8} = -3, call 0 7 9 = -2, call 0 0 4 = -2")
        .due("call 0 7 3 = 0, group 0 3 = 1, call 0 7 1 = 1")
        .times(10, "call 0 7 1").due("call 0 7 1 = -4, call 0 7 4 = -3, call 7 7 1 = -2, count 2 = 12");
  }

  private static void group() {
    rich("promise 7: group, its bounds").due(
        "group {-1,5,39,40," + ODD + "} {0,8} = -2, group 0 {-1,8," + ODD + "} = -2",
        "group 1 0 = 1, group 1 1 = 9, group 1 2 = 3, group 1 3 = 0, group 1 4 = 1, group 1 5 = 9",
        "group 1 6 = 3, group {1,2} 7 = 2, group 4 7 = 1, group 2 5 = 13, group {2,3,4} 6 = 0",
        "group 0 4 = 2, group 0 6 = 3, group 0 {3,7} = 0");
  }

  private static void wayAndGap() {
    rich("promise 8: way 0 .. 2").due(
        "way {-1,3," + ODD + "} = -2, way 2 = 0, way 1 = 2, way 0 = 1, way 0 = 0, count 9 = 0");
    rich("promise 9: gap 1 .. 20").due(
        "gap {0,-1,21," + ODD + "} = -2, gap 20 = 5, gap 1 = 20, gap 1 = 1, count 10 = 1");
  }

  private static void cost() {
    rich("promise 10: cost, its bounds").due(
        "cost {-1,5,40," + ODD + "} 0 = -2, cost 2 {-1,3," + ODD + "} = -2, cost {0,1} {0,1,2} = -3",
        "cost {0,1} 3 = -2, cost 3 {0,2} = 999, cost 3 1 = 7, cost 4 2 = 3, cost 4 0 = 2");
  }

  private static void give() {
    rich("promise 11: give, its bounds").due(
        "give {-1,5,40," + ODD + "} 0 = -2, give 4 {-1,3," + ODD + "} = -2, give {0,1} {0,1,2} = -3",
        "give {0,1,2} 3 = -2, give 2 {0,1,2} = -3, give 3 {0,2} = -3, give 3 1 = -3, give 4 0 = -3",
        "give 4 2 = 2, told 2 7 = -1, give 4 {0,1,2} = -3, event 0 0 = 3");
  }

  private static void regive() {
    rich("promise 12: regive, how many").due("regive = 0, way 1, cost 4 0 = 32, cost 4 1 = 73")
        .due("cost 4 2 = 3, cost 3 1 = 27, regive = 1, group 4 3 = 2, group 4 7 = 2, told 2 7 = -1")
        .due("regive = 0, group {2,3} 3 = 1");
  }

  private static void ticks() {
    rich("promise 13: tick, how many are there by it").due("count 8 = 13, tick = 0, count 8 = 14")
        .due("ticks 75 = 2, tick = 2, tick = 0, count 5 = 5, count 8 = 91");
    rich("promise 14: ticks 0 .. 99").due(
        "ticks {-1,100," + ODD + "} = -2, ticks 0 = 0, count 8 = 13, ticks 99 = 4, count 8 = 112",
        "ticks 1 = 0, count 8 = 113");
  }

  private static void park() {
    Script.begin("promise 15: park, how many got one; none").due(
        "park = 0, build 8 4, call 1 0 1, call 2 0 1, call 3 0 1, told 0 12 = 3, park = 3",
        "told 1 7 = 1, told 2 7 = 2, told 3 7 = 3, told 0 7 = -1, park = 0");
  }

  private static void demand() {
    rich("promise 16: demand, its bounds").due(
        "demand {-1,10,11," + ODD + "} {0,1} = -2, demand 0 {-1,2," + ODD + "} = -2",
        "demand 1 0 = 2, demand {3,7,8} 0 = 1, demand {1,3,7,8} 1 = 5, demand {0,9} 0 = 0",
        "demand {0,9} 1 = 1");
    Script.begin("promise 16: demand, in lowest terms").due(
        "demand 0 {0,1} = -3, demand 8 0 = -2, demand 0 2 = -2, call {0,0,0} 1 1, call 1 0 1",
        "demand 0 0 = 3, demand 0 1 = 4, call {0,2} 1 1, demand 0 0 = 2, demand 0 1 = 3",
        "demand {1,2} 0 = 1, demand {1,2} 1 = 6, build 8 2, demand 0 0 = -3");
  }

  private static void sweepAndNear() {
    rich("promise 17: sweep, its bounds").due(
        "sweep {-1,3," + ODD + "} {-1,0} = -2, sweep 0 {-2,2," + ODD + "} = -12, sweep 0 -1 = 2",
        "sweep 0 0 = 3, sweep 0 1 = 9, sweep 1 0 = 7, sweep 1 1 = 8, sweep 2 -1 = 1, sweep 2 0 = 1",
        "sweep 2 1 = -12, sweep {-1,3} -2 = -2");
    rich("promise 18: near, its bounds").due(
        "near {-1,3," + ODD + "} 0 5 = -2, near 0 {-1,3," + ODD + "} 5 = -2",
        "near 0 1 {-1,12," + ODD + "} = -2, near 0 1 0 = 0, near 0 1 1 = 1, near 0 1 2 = 2",
        "near 0 1 3 = 2, near 0 1 4 = 3, near 0 1 {5,10,11} = 4, near 0 0 {0,5} = 2",
        "near 0 0 {6,11} = 4, near 2 2 {0,11} = 1, near 2 0 1 = 0, near 2 0 2 = 1");
  }

  private static void oldestAndMean() {
    rich("promise 19: oldest, its bounds").due("oldest {-1,5," + ODD + "} = -2, oldest 0 = 2",
        "oldest 1 = 0, oldest 2 = 0, oldest 3 = 3, oldest 4 = 0, tick, oldest 1 = 1");
    rich("promise 20: mean, its bounds").due("mean {-1,2," + ODD + "} = -2, mean 0 = 3, mean 1 = 1")
        .due("build 8 2, mean {0,1} = -3, mean {-1,2} = -2, call 0 1 1, mean {0,1} = -3");
  }

  private static void done() {
    rich("promise 21: done, its bounds").due("done {-1,3," + ODD + "} = -2, count 8 = 13")
        .due("done 0 = 77, done 1 = 32, done 2 = 0, ticks 76 = 2, done 0 = 1, tick = 2, done 0 = 0")
        .due("done 1 = 32, oldest 3 = 32");
  }

  private static void would() {
    rich("promise 22: would, its bounds").due(
        "would {-1,5,40," + ODD + "} 0 0 = -2, would 2 {-1,3," + ODD + "} 0 = -2",
        "would 2 0 {-1,2," + ODD + "} = -2, would {0,1} {0,1,2} {0,1} = -3, would {0,1} 3 0 = -2",
        "would {0,1} 0 2 = -2, would 3 {0,2} {0,1} = -3, would 3 {0,2} 2 = -2, would 2 2 0 = 17",
        "would 2 2 1 = 37, would 4 2 0 = 7, would 4 2 1 = 15, would 4 0 0 = 4, would 4 0 1 = 9",
        "told 2 7 = 1");
  }

  private static void soonest() {
    rich("promise 23: soonest, its bounds").due(
        "soonest {-1,5,40," + ODD + "} = -2, soonest {0,1} = -3, soonest 3 = 1, soonest 4 = 0",
        "soonest 2 = 2, would 2 0 1 = 38, would 2 1 1 = 77, count 8 = 13, told 2 7 = 1");
  }

  private static void drawnAndChance() {
    rich("promise 24: drawn, n 0 .. 6, what 0 .. 2").due(
        "drawn {0," + ODD + "} {-1,7," + ODD + "} 0 = -2, drawn 0 3 {-1,3," + ODD + "} = -2",
        "drawn {0," + ODD + "} 0 0 = 77, drawn 3 0 1 = 32, drawn 3 0 2 = 0, drawn {3," + ODD + "} 6 2",
        "count 2 = 5, count 8 = 13");
    rich("promise 25: chance, m 1 .. 6, w 0 .. 999, part 0, 1").due(
        "chance {0," + ODD + "} {0,-1,7," + ODD + "} 9 0 = -2, chance 0 1 {-1,1000," + ODD + "} 0 = -2",
        "chance 0 1 9 {-1,2," + ODD + "} = -2, chance {0," + ODD + "} {1,6} 0 0 = 0",
        "chance {0," + ODD + "} {1,6} 0 1 = 1, chance {0," + ODD + "} {1,6} 999 {0,1} = 1");
  }

  private static void feed() {
    rich("promise 26: feed, n 1 .. 5, all bytes 0 .. 255").due(
        "feed {0,-1,6," + ODD + "} 1 1 1 1 1 = -2, feed 1 {-1,256," + ODD + "} 1 1 1 1 = -2",
        "feed 1 1 {-1,256," + ODD + "} 1 1 1 = -2, feed 1 1 1 {-1,256," + ODD + "} 1 1 = -2",
        "feed 1 1 1 1 {-1,256," + ODD + "} 1 = -2, feed 1 1 1 1 1 {-1,256," + ODD + "} = -2",
        "count 7 = 7, feed 1 0 255 255 255 255 = 8, feed 5 255 0 0 0 255 = 13")
        .times(9, "feed 5 32 32 32 32 32").due("count 7 = 58, feed {3,4,5} 32 32 32 32 32 = -4")
        .due("feed 3 32 32 32 32 256 = -2, feed 2 32 32 32 32 32 = 60, feed 1 32 0 0 0 0 = -4");
  }

  private static void text() {
    rich("promise 27: text, the tape is empty then, by a fault, too").feed("ark").text("", 2)
        .due("count 9 = 2, count 7 = 0").text("", -100).text("way 3;walk", -106).due("count 7 = 0")
        .due("count 9 = 2").text("way 3", 0).due("count 7 = 0").text("tick 99;tick 100", -113)
        .due("count 8 = 13").text("give 0 0;give 9 0;give 4 9;call 9 9 9;call 0 1 9;way 9", 0)
        .due("count 2 = 5, count 9 = 2, count 8 = 13");
  }

  private static void event() {
    rich("promise 28: event, its bounds").due(
        "count 6 = 13, event 0 {-1,4," + ODD + "} = -2, event {-1,13," + ODD + "} 0 = -12",
        "event {-1,13," + ODD + "} 4 = -2, event 12 {0,1,2,3} = 0",
        "event 0 0 = 3, event 0 1 = 4, event 0 2 = 0, event 0 3 = 13");
  }

  private static void tells() {
    rich("promise 29: tells, its bounds").due(
        "tells {-1,4," + ODD + "} 0 0 = -2, tells {0,3} {-1,3," + ODD + "} 0 = -2",
        "tells {0,3} 0 {-1,3," + ODD + "} = -2, tells 3 0 {0,1,2} = -11, tells 1 0 {0,1,2} = -2",
        "tells 2 0 0 = -1, tells 2 {0,1,2} 1 = 63, tells 2 {0,1,2} 2 = 1023, tells 0 0 0 = 0",
        "tells 0 0 {1,2} = 0");
  }

  private static void film() {
    rich("promise 30: film, its bounds").due(
        "film {-1,4," + ODD + "} 0 5 = -2, film 1 {-1,3," + ODD + "} 5 = -2",
        "film 1 0 {-1,31," + ODD + "} = -2, film 1 0 30 = 30, put 1 29 2 = 1, put 1 30 1 = -12",
        "tells 1 0 0 = 29, film 3 2 1 = 1, put 3 0 0 = 1, put 3 1 0 = -12, film 0 0 0 = 0",
        "put 0 0 1 = -12, load 0 0 0 0 = 0, load {1,3} 1 0 1 = -13");
  }

  private static void load() {
    rich("promise 31: load, its bounds").due(
        "load {-1,4," + ODD + "} 0 0 1 = -2, load {0,3} {-1,2," + ODD + "} 0 1 = -2",
        "load {0,3} 0 0 {-1,7," + ODD + "} = -2, load 0 1 0 {0,1} = -13, load {1,2} 0 0 {0,1} = -13",
        "load 3 {0,1} {0,-1,99} {0,1} = -11, load 0 0 {-1,-3,4,6,7," + ODD + "} 1 = -12",
        "load 2 1 0 {1,6} = -12, load 2 1 0 0 = 0, load 0 0 {0,-1,99," + ODD + "} 0 = 0",
        "load 0 0 3 1 = 1, group 5 0 = 0, group 5 1 = 3, load 0 0 0 2 = 2, group 6 0 = 3")
        .changes("load 0 0 3 2 = -12").due("count 2 = 9").changes("load 0 0 0 6 = -12")
        .due("count 2 = 11, count 6 = 19");
    Script.begin("promise 31: load, three items a group").due(
        "sheet 0 1 9, put 0 {1,5} 2, put 0 {2,8} 1, put 0 {3,7} 3, load 0 1 0 3 = 3, group 0 0 = 0",
        "group 0 1 = 2, group 1 0 = 3, group 1 1 = 0, group 1 2 = 2, group 2 0 = 0, group 2 1 = 3");
    Script.begin("promise 31: load, others are left out").due(
        "sheet 0 1 18, put 0 {0,6,12} 1, put 0 {2,5,8,11,14,17} 1, put 0 {3,4,9,10} 7, put 0 5 MAX",
        "put 0 {15,16} MIN, load 0 1 0 6 = 3, count 2 = 3, load 0 1 15 1 = 0, load 0 1 9 1 = 0");
  }

  private static void imageAndBack() {
    rich("promise 32: image, how many have called").due("image = 5, call 0 1 1, image = 6, image = 6");
    rich("promise 33: back, all as in the image").due("back = 1, count {2,3} = 1, count {4,5,8} = 0",
        "count 9 = 1, count 10 = 5, count 7 = 7, told 2 7 = -1, event 1 0 = -12, put 0 5 1 = 1",
        "put 0 6 1 = -12, put 3 0 1 = -11, back = 1, ticks 9 = 1, back = 1, group 0 4 = 0");
    rich("promise 33: back, over a hall that is other in all").due(
        "image = 5, ticks 99 = 4, way 2, gap 20, build 4 4").times(3, "call 3 0 1", "ticks 30")
        .due("give {0,1,2} 1 = -3, call {3,3,3} 1 1, give {3,4,5} 1 = 1, give {3,4,5} 2 = 2, park = 1")
        .due("car 3 1 9 1, back = 5, count 0 = 10, count 1 = 3, count 3 = 3, count {4,5} = 1")
        .due("count {6,8} = 13, count 9 = 0, count 10 = 5, count 21 = 2, count {23,27,28} = 1")
        .due("count {20,22,24,25,26,29} = 0, told 0 0 = 0, told 1 0 = 4, told 2 0 = 5, told 2 1 = 3")
        .due("told 0 2 = 4, told 1 2 = 8, told 2 2 = 2, told 2 7 = 1, told 0 {3,4,6} = 1, told 0 5 = 2")
        .due("told 0 8 = 3, told 0 9 = 520, told 1 9 = 384, group {1,2} 7 = 2, group {0,3} 7 = 0")
        .due("group 4 7 = 1, group {0,1} 6 = 3, group {2,3} 5 = 13, group {2,3} 3 = 1, oldest 4 = 0")
        .due("event 0 0 = 3, event 0 1 = 4, event 0 2 = 0, back = 5, call 9 0 1 = 5, event 0 1 = 5")
        .due("event 1 0 = 3, event 1 3 = 13, event 2 0 = 0, event 2 2 = 2, event 13 {0,1,2,3} = 0");
    Script.begin("promise 33: back, there is none").due("back = -3, build 2 1, back = -3, image = 0",
        "back = 0, count 0 = 2");
  }

  private static void count() {
    rich("promise 34: count, its bounds").due(
        "count {-1,11,12,19,32,33," + ODD + "} = -2, count 0 = 10, count 1 = 3, count 2 = 5",
        "count 3 = 3, count 4 = 1, count 5 = 1, count 6 = 13, count 7 = 7, count 8 = 13, count 9 = 0",
        "count 10 = 5, count 21 = 2, count {23,27,28} = 1, count {20,22,24,25,26,29} = 0",
        "count {30,31} = -1",
        "build 12 1, count {20,31} = 0, build 2 1, count {20,21} = 0, count {22,31} = -1");
  }

  private static void sheet() {
    rich("promise 35: sheet, its bounds").due(
        "sheet {-1,4," + ODD + "} 0 5 = -2, sheet 0 {-2,2," + ODD + "} 5 = -2",
        "sheet 0 {0,1} {41,42,MAX} = -2, sheet {0,3} {0,1} {-1,MIN} = -14, sheet {-1,4} -1 5 = -2",
        "sheet 0 {-2,2} -1 = -2, sheet 0 1 40 = 1, put 0 39 1 = 1, put 0 40 1 = -12, sheet 0 0 0 = 1",
        "put 0 0 1 = -12, sheet {0,3} -1 {0,41,-1," + ODD + "} = 1, put 0 0 1 = -11");
    Script.begin("promise 35: sheet, all 0").due("sheet 0 1 30, put 0 {0,29} 5, tells 0 0 0 = 0")
        .due("sheet 0 1 30, tells 0 0 0 = -1, put 0 29 5, sheet 0 -1 0, sheet 0 1 30, tells 0 0 0 = -1")
        .due("put 0 29 5, sheet 0 1 0, sheet 0 0 30, tells 0 0 0 = -1");
  }

  private static void put() {
    rich("promise 36: put, its bounds").due(
        "put {-1,4," + ODD + "} 0 1 = -2, put 3 {0,-1,MAX} 1 = -11, put 0 {-1,6,7,40," + ODD + "} 1 = -12",
        "put 2 {0,-1} 1 = -12, put 1 {-1,31," + ODD + "} 1 = -12, put {0,1} {0,5} {0,-1," + ODD + "} = 1",
        "put 1 30 " + Integer.MAX_VALUE + " = 1");
    Script.begin("promise 29: tells, figures by which a guest would be so").due(
        "build 8 1, car 0 5 4 4, call 0 1 1, film 0 0 7 = 7, tells 0 0 0 = -1, tells 0 0 2 = 1008",
        "film 0 0 8 = 8, tells 0 0 2 = 16, tells 0 0 1 = 32, told 0 1 = 4, told 0 0 = 5");
    Script.begin("promise 36: put, of bytes the lowest 8 bits, of ints all").due(
        "sheet 0 0 1, sheet 1 1 1, put {0,1} 0 256, tells 0 0 0 = -1, tells 1 0 0 = 0",
        "put {0,1} 0 -256, tells 0 0 0 = -1, tells 1 0 0 = 0, put {0,1} 0 MIN, tells 0 0 0 = -1",
        "tells 1 0 0 = 0, put {0,1} 0 MAX, tells {0,1} 0 0 = 0, sheet {0,1} -1 0, sheet 0 0 3",
        "put 0 0 255, put 0 1 -255, put 0 2 1, load 0 0 0 1 = 0, put 0 0 -256, load 0 0 0 1 = 1",
        "group 0 0 = 0, group 0 1 = 1");
  }

  private static void copy() {
    rich("promise 37: copy, its bounds").due(
        "copy {-1,4," + ODD + "} 0 0 0 1 = -2, copy 0 0 {-1,4," + ODD + "} 0 1 = -2",
        "copy 3 {0,-1} {0,3} 0 {1,-1} = -11, copy 0 {0,-1} 3 0 {1,-1} = -11",
        "copy 0 {0,-1} 1 0 {0,1,-1} = -13, copy 1 0 0 {0,-1} 1 = -13",
        "copy 1 0 2 0 0 = 0, copy 1 31 2 0 0 = 0, copy 1 {32,-1," + ODD + "} 2 0 0 = -12",
        "copy 1 0 2 {1,-1," + ODD + "} 0 = -12, copy 1 0 2 0 1 = -12, copy 2 0 1 0 1 = -12",
        "copy 1 0 1 0 {-1,32," + ODD + "} = -12, copy 1 1 1 0 31 = -12, copy 1 0 1 1 31 = -12",
        "copy 1 1 1 {0,1} 30 = 30, copy 1 0 1 0 31 = 31, copy 1 30 1 0 1 = 1, copy 1 31 1 0 1 = -12",
        "copy 1 {" + ODD + "} 1 {" + ODD + "} {" + ODD + "} = -12");
    Script.begin("promise 37: copy, as they were, to the left and to the right").due(
        "sheet 0 1 5, put 0 0 1, put 0 1 2, put 0 2 3, put 0 3 4, put 0 4 5, copy 0 0 0 1 4 = 4",
        "load 0 1 0 1 = 0, load 0 1 1 1 = 1, group 0 0 = 1, group 0 1 = 2, group 0 2 = 3",
        "copy 0 1 0 0 4 = 4, load 0 1 2 1 = 1, group 1 0 = 3, group 1 {1,2} = 4",
        "load 0 1 0 1 = 1, group 2 0 = 1, group 2 1 = 2, group 2 2 = 3");
  }
}
