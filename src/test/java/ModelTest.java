import java.lang.reflect.Method;
import java.util.ArrayList;
import java.util.Arrays;
import java.util.List;
import java.util.Map;
import java.util.Random;

/** Random runs of 512 calls: the class must answer as Model does, and never throw. */
final class ModelTest {
  private static final int CALLS = 512;

  // A call, how often it comes, and for each number the range in which it is most often good.
  private static final String[] CALL_TABLE = {
    "build 1 2:12 1:4", "car 8 0:3 0:5 0:9 1:8", "told 20 0:3 0:12", "taken 4 0:3 0:5",
    "call 60 0:7 0:7 1:5", "group 20 0:39 0:7", "way 4 0:2", "gap 3 1:20",
    "cost 20 0:39 0:3", "give 16 0:39 0:3", "regive 6", "tick 20", "ticks 14 0:20", "park 12",
    "demand 6 0:11 0:1", "sweep 14 0:3 -1:5", "near 8 0:3 0:3 0:11", "oldest 14 0:4",
    "mean 4 0:1", "done 6 0:2", "would 12 0:39 0:3 0:1", "soonest 6 0:39",
    "drawn 3 -9:9999 0:6 0:2", "chance 2 -9:9999 1:6 0:120 0:1", "text 12", "event 14 0:20 0:3",
    "tells 20 0:3 0:3 0:2", "film 8 0:3 0:3 0:30", "load 6 0:3 0:1 0:10 0:6", "image 2", "back 2",
    "count 20 0:31", "sheet 4 0:3 -1:1 0:40", "put 10 0:3 0:20 0:9", "copy 6 0:3 0:9 0:3 0:9 0:12",
  };
  private static final String[] CLAUSES = {
    "call 0 5 2", "call 3 1 1", "call 7 2 4", "tick 3", "tick10", "tick 99", "give 0 1",
    "give 3 0", "way 0", "way 1", "way 2", "way 3", "regive", "park", "call 1 2", "tick 123",
    "walk", "call 9 9 9", " park ", "\npark\n", "PARK", "call 0 1 2 3", "park 1", "give 0", "",
    "8", "tick 007", "parkpark", "call4 2 1",
  };
  private static final int[] ODD = {
    -1, -2, 0, 1, 4, 12, 13, 40, 41, 100, 255, 256, 1000, Integer.MAX_VALUE, Integer.MIN_VALUE,
    Integer.MAX_VALUE - 1, Integer.MIN_VALUE + 1,
  };

  private static final Map<String, Method> CLASS_METHODS = Script.methodsOf(LiftSweeps.class);
  private static final Map<String, Method> MODEL_METHODS = Script.methodsOf(Model.class);

  private ModelTest() {}

  static void run() {
    int runs = Integer.getInteger("runs", 400);
    int first = Integer.getInteger("first", 0);
    Check.begin("random runs answer as the model does");
    for (int seed = first; seed < first + runs; seed++) {
      if (!runOf(seed)) {
        break;
      }
    }
    Check.begin("random runs of wrong numbers answer as the model does");
    for (int seed = first; seed < first + runs / 4; seed++) {
      if (!oddRunOf(seed)) {
        break;
      }
    }
  }

  private static boolean runOf(int seed) {
    return play(new Random(seed), seed, 3);
  }

  private static boolean oddRunOf(int seed) {
    return play(new Random(1000000 + seed), seed, 40);
  }

  private static boolean play(Random random, int seed, int oddPercent) {
    LiftSweeps x = new LiftSweeps();
    Model model = new Model();
    List<String> said = new ArrayList<>();
    int made = 0;
    if (random.nextInt(4) > 0) {
      made += both(x, model, said, "build", 4 + random.nextInt(9), 1 + random.nextInt(4));
      for (int car = 0; car < 4; car++) {
        made += both(x, model, said, "car", car, random.nextInt(6), random.nextInt(10),
            2 + random.nextInt(7));
      }
    }
    while (made < CALLS - 16) {
      String[] row = pick(random).split(" ");
      if (row[0].equals("text")) {
        made += feedSome(x, model, said, random);
      }
      int[] args = new int[row.length - 2];
      for (int i = 0; i < args.length; i++) {
        args[i] = number(random, row[i + 2], oddPercent, model.count(2), row[0]);
      }
      made += both(x, model, said, row[0], args);
      if (said.get(said.size() - 1).startsWith("WRONG")) {
        report(seed, said);
        return false;
      }
    }
    return true;
  }

  private static String pick(Random random) {
    int all = 0;
    for (String row : CALL_TABLE) {
      all += Integer.parseInt(row.split(" ")[1]);
    }
    int at = random.nextInt(all);
    for (String row : CALL_TABLE) {
      at -= Integer.parseInt(row.split(" ")[1]);
      if (at < 0) {
        return row;
      }
    }
    return CALL_TABLE[0];
  }

  private static int number(Random random, String range, int oddPercent, int groups, String call) {
    if (random.nextInt(100) < oddPercent) {
      return random.nextInt(8) == 0 ? random.nextInt() : ODD[random.nextInt(ODD.length)];
    }
    int low = Integer.parseInt(range.split(":")[0]);
    int high = Integer.parseInt(range.split(":")[1]);
    // The latest groups are those that still wait.
    if (high == 39 && groups > 0 && random.nextInt(8) > 0) {
      return Math.max(0, groups - 1 - random.nextInt(8));
    }
    return low + random.nextInt(high - low + 1);
  }

  private static int feedSome(LiftSweeps x, Model model, List<String> said, Random random) {
    StringBuilder text = new StringBuilder();
    int clauses = 1 + random.nextInt(4);
    for (int i = 0; i < clauses; i++) {
      text.append(i == 0 ? "" : ";").append(CLAUSES[random.nextInt(random.nextInt(3) == 0 ? 29 : 14)]);
    }
    if (random.nextInt(10) == 0 && text.length() > 0) {
      text.setCharAt(random.nextInt(text.length()), (char) random.nextInt(256));
    }
    int made = 0;
    for (int i = 0; i < text.length(); i += 5) {
      int[] args = new int[6];
      args[0] = Math.min(5, text.length() - i);
      for (int k = 0; k < args[0]; k++) {
        args[1 + k] = text.charAt(i + k);
      }
      made += both(x, model, said, "feed", args);
    }
    return made;
  }

  private static int both(LiftSweeps x, Model model, List<String> said, String call, int... args) {
    int got = Script.answer(CLASS_METHODS.get(call), x, args);
    int want = Script.answer(MODEL_METHODS.get(call), model, args);
    String list = Arrays.toString(args);
    String row = call + "(" + list.substring(1, list.length() - 1) + ") answered " + got;
    said.add(got == want ? row : "WRONG " + row + ", due is " + want);
    return 1;
  }

  private static void report(int seed, List<String> said) {
    Check.holds("run of seed " + seed, false);
    for (String row : said) {
      if (!row.startsWith("told") && !row.startsWith("group") && !row.startsWith("count")) {
        System.out.println("  " + row);
      }
    }
  }
}
