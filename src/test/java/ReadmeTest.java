import java.io.IOException;
import java.lang.reflect.Method;
import java.nio.file.Files;
import java.nio.file.Path;
import java.util.ArrayList;
import java.util.List;
import java.util.Map;
import java.util.regex.Matcher;
import java.util.regex.Pattern;

/** README.md must tell what the class does: its calls, their answers and refusals, the kinds. */
final class ReadmeTest {
  private static final Path README = Path.of("README.md");
  private static final Path SOURCE = Path.of("src/main/java/LiftSweeps.java");
  // Each promise's call with its refusals, in the order in which the document names them.
  private static final List<String> PROMISES = List.of(
      "build(f, k) BAD", "car(car, kind, figure, room) BAD STATE", "told(car, what) BAD",
      "taken(car, k) BAD -13", "call(from, to, size) BAD STATE FULL", "group(group, what) BAD",
      "way(w) BAD", "gap(v) BAD", "cost(group, car) BAD STATE", "give(group, car) BAD STATE",
      "regive()", "tick()", "ticks(n) BAD", "park()", "demand(floor, part) BAD STATE",
      "sweep(car, i) BAD -12", "near(car, other, n) BAD", "oldest(what) BAD",
      "mean(part) BAD STATE", "done(what) BAD", "would(group, car, what) BAD STATE",
      "soonest(group) BAD STATE", "drawn(seed, n, what) BAD", "chance(seed, m, w, part) BAD",
      "feed(n, a, b, c, d, e) BAD FULL", "text() -100", "event(i, what) BAD -12",
      "tells(sheet, car, what) BAD -11 BAD", "film(sheet, car, n) BAD",
      "load(sheet, sort, from, n) BAD -13 -11 -12", "image()", "back() STATE", "count(what) BAD",
      "sheet(sheet, sort, n) BAD -14", "put(sheet, i, v) BAD -11 -12",
      "copy(sheet, i, other, j, n) BAD -11 -13 -12");

  private ReadmeTest() {}

  static void run() {
    Check.begin("readme: it is there");
    try {
      String text = Files.readString(README);
      example(text);
      calls(text);
      face(Files.readString(SOURCE));
      refusals(text);
      kinds(text);
    } catch (IOException e) {
      Check.holds("README.md and the class can be read", false);
    }
  }

  private static List<Matcher> all(String pattern, String text) {
    List<Matcher> found = new ArrayList<>();
    Matcher m = Pattern.compile(pattern, Pattern.MULTILINE).matcher(text);
    while (m.find()) {
      Matcher one = Pattern.compile(pattern, Pattern.MULTILINE).matcher(text);
      one.find(m.start());
      found.add(one);
    }
    return found;
  }

  private static void example(String text) {
    Check.begin("readme: the calls of the example answer so");
    Map<String, Method> methods = Script.methodsOf(LiftSweeps.class);
    LiftSweeps x = new LiftSweeps();
    List<Matcher> lines = all("^lifts\\.(\\w+)\\((.*)\\); +// (-?\\d+)\\b", text);
    Check.holds("more than 20 calls", lines.size() > 20);
    Check.due("lines with an answer", lines.size(), all("^lifts\\.", text).size());
    for (Matcher line : lines) {
      int[] args = numbers(line.group(2));
      int got = Script.answer(methods.get(line.group(1)), x, args);
      Check.due(line.group(1) + "(" + line.group(2) + ")", got, Integer.parseInt(line.group(3)));
    }
  }

  private static int[] numbers(String list) {
    if (list.isEmpty()) {
      return new int[0];
    }
    String[] parts = list.split(", ");
    int[] numbers = new int[parts.length];
    for (int i = 0; i < parts.length; i++) {
      numbers[i] = parts[i].startsWith("'") ? parts[i].charAt(1) : Integer.parseInt(parts[i]);
    }
    return numbers;
  }

  private static void calls(String text) {
    Check.begin("readme: each call has its row, with its refusals in their order");
    List<String> rows = new ArrayList<>();
    for (Matcher row : all("^\\| `(\\w+\\(.*?\\))` \\|(.*)\\|(.*)\\|$", text)) {
      StringBuilder told = new StringBuilder(row.group(1));
      for (Matcher refusal : all("BAD|STATE|FULL|-1\\d+", row.group(3))) {
        told.append(' ').append(refusal.group());
      }
      rows.add(told.toString());
      Check.holds(row.group(1) + " is told of", row.group(2).length() > 8);
    }
    Check.due("how many rows", rows.size(), PROMISES.size());
    for (int i = 0; i < Math.min(rows.size(), PROMISES.size()); i++) {
      Check.holds(PROMISES.get(i) + " is not " + rows.get(i), PROMISES.get(i).equals(rows.get(i)));
    }
  }

  private static void face(String source) {
    Check.begin("face: the calls in their order, their arguments by the document's names");
    List<Matcher> methods = all("^  public int (\\w+\\(.*\\)) \\{$", source);
    Check.due("how many calls", methods.size(), PROMISES.size());
    for (int i = 0; i < Math.min(methods.size(), PROMISES.size()); i++) {
      String call = methods.get(i).group(1).replace("int ", "");
      Check.holds(call + " comes as promise " + (i + 2),
          PROMISES.get(i).startsWith(call));
    }
  }

  private static void refusals(String text) {
    Check.begin("readme: the refusals by their numbers");
    Map<String, Integer> constants = Map.of("NONE", LiftSweeps.NONE, "BAD", LiftSweeps.BAD,
        "STATE", LiftSweeps.STATE, "FULL", LiftSweeps.FULL);
    List<Matcher> rows = all("^\\| `([A-Z]+)` (-\\d+) \\|", text);
    Check.due("how many constants", rows.size(), constants.size());
    for (Matcher row : rows) {
      Check.due(row.group(1), Integer.parseInt(row.group(2)), constants.getOrDefault(row.group(1), 0));
    }
    Check.due("how many others", all("^\\| -1[1-4] \\|", text).size(), 4);
  }

  private static void kinds(String text) {
    Check.begin("readme: the kinds, what they are under, their pace and stay");
    List<Matcher> rows = all("^\\| (\\d) (\\w+) \\| (\\w*) ?\\| (\\d).* \\| (\\d).* \\|$", text);
    Check.due("how many kinds", rows.size(), 6);
    List<String> names = rows.stream().map(row -> row.group(2)).toList();
    for (int kind = 0; kind < rows.size(); kind++) {
      Matcher row = rows.get(kind);
      LiftSweeps x = new LiftSweeps();
      x.car(0, kind, 0, 4);
      Check.due("number of " + row.group(2), Integer.parseInt(row.group(1)), kind);
      Check.due("pace of " + row.group(2), Integer.parseInt(row.group(4)), x.told(0, 10));
      Check.due("stay of " + row.group(2), Integer.parseInt(row.group(5)), x.told(0, 11));
      // The table names the kind just above; that one's own row tells the next.
      String under = row.group(3);
      for (int other = 0; other < rows.size(); other++) {
        boolean above = other == kind || names.get(other).equals(under)
            || !under.isEmpty() && names.get(other).equals(underOf(rows, names, under));
        Check.due(row.group(2) + " taken for " + names.get(other), x.taken(0, other),
            above ? x.told(0, 10) : -13);
      }
    }
  }

  private static String underOf(List<Matcher> rows, List<String> names, String name) {
    int kind = names.indexOf(name);
    return kind < 0 ? "" : rows.get(kind).group(3);
  }
}
