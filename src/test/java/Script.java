import java.lang.reflect.InvocationTargetException;
import java.lang.reflect.Method;
import java.util.ArrayList;
import java.util.Arrays;
import java.util.HashMap;
import java.util.List;
import java.util.Map;

/**
 * A run of calls on a new object, told in rows such as "call 0 7 1 = 0", "tick" (any answer but a
 * refusal) or "build {1,13,MAX} 2 = -2" (one call for each number in the braces). Several calls of
 * a row are parted by ", ". Model has to answer likewise, and behind a refused call nothing may
 * have changed: an object on which it was called is compared with one on which it was not.
 */
final class Script {
  private static final int MOST_CALLS = 512;
  private static final Map<String, Method> CLASS_METHODS = methodsOf(LiftSweeps.class);
  private static final Map<String, Method> MODEL_METHODS = methodsOf(Model.class);

  private final LiftSweeps x = new LiftSweeps();
  private final Model model = new Model();
  private final List<String> taken = new ArrayList<>();
  private int calls = 0;

  private Script() {}

  /** Begins a case of its own for a sentence of the document. */
  static Script begin(String sentence) {
    Check.begin(sentence);
    return new Script();
  }

  static Map<String, Method> methodsOf(Class<?> type) {
    Map<String, Method> methods = new HashMap<>();
    for (Method m : type.getMethods()) {
      if (m.getDeclaringClass() == type) {
        methods.put(m.getName(), m);
      }
    }
    return methods;
  }

  static int answer(Method method, Object on, int... args) {
    Object[] boxed = new Object[args.length];
    for (int i = 0; i < args.length; i++) {
      boxed[i] = args[i];
    }
    try {
      return (Integer) method.invoke(on, boxed);
    } catch (IllegalAccessException e) {
      throw new IllegalStateException(e);
    } catch (InvocationTargetException e) {
      System.out.println(method.getName() + Arrays.toString(args) + " threw " + e.getCause());
      return 123456789;
    }
  }

  /** The answer of the object to a call such as "told 0 3", which the run does not count. */
  static int ask(LiftSweeps x, String call) {
    String[] words = call.split(" ");
    return answer(CLASS_METHODS.get(words[0]), x, numbers(words));
  }

  private static int[] numbers(String[] words) {
    int[] numbers = new int[words.length - 1];
    for (int i = 0; i < numbers.length; i++) {
      String word = words[i + 1];
      numbers[i] = word.equals("MAX") ? Integer.MAX_VALUE
          : word.equals("MIN") ? Integer.MIN_VALUE : Integer.parseInt(word);
    }
    return numbers;
  }

  Script due(String... rows) {
    for (String row : rows) {
      for (String one : row.split(", ")) {
        String[] halves = one.split(" = ");
        for (String call : spread(halves[0])) {
          make(call, halves.length > 1 ? Integer.valueOf(halves[1]) : null, true);
        }
      }
    }
    return this;
  }

  /** Of these refused calls is not asked that they change nothing (load: what stood ahead did). */
  Script changes(String row) {
    String[] halves = row.split(" = ");
    make(halves[0], Integer.valueOf(halves[1]), false);
    return this;
  }

  Script times(int n, String... rows) {
    for (int i = 0; i < n; i++) {
      due(rows);
    }
    return this;
  }

  /** Feeds a text and reads it. */
  Script text(String text, int want) {
    feed(text);
    make("text", want, false);
    return this;
  }

  Script feed(String text) {
    for (int i = 0; i < text.length(); i += 5) {
      StringBuilder call = new StringBuilder("feed ");
      call.append(Math.min(5, text.length() - i));
      for (int k = i; k < i + 5; k++) {
        int b = k < text.length() ? text.charAt(k) : 0;
        call.append(' ').append(b);
      }
      make(call.toString(), null, true);
    }
    return this;
  }

  int said(String call) {
    return ask(x, call);
  }

  private static List<String> spread(String call) {
    int open = call.indexOf('{');
    if (open < 0) {
      return List.of(call);
    }
    int close = call.indexOf('}');
    List<String> all = new ArrayList<>();
    for (String number : call.substring(open + 1, close).split(",")) {
      all.addAll(spread(call.substring(0, open) + number + call.substring(close + 1)));
    }
    return all;
  }

  private void make(String call, Integer want, boolean unchanged) {
    calls++;
    Check.holds("no more than 512 calls", calls <= MOST_CALLS);
    int got = ask(x, call);
    String[] words = call.split(" ");
    int model = answer(MODEL_METHODS.get(words[0]), this.model, numbers(words));
    if (want == null) {
      Check.holds(call + " is taken, not " + got, got >= 0 && got == model);
    } else {
      Check.due(call, got, want);
      Check.due("the model's " + call, model, want);
    }
    if (unchanged && got <= LiftSweeps.BAD) {
      nothingChanged(call);
    } else {
      taken.add(call);
    }
  }

  // ---- behind a refused call

  private LiftSweeps again(String... more) {
    LiftSweeps again = new LiftSweeps();
    for (String call : taken) {
      ask(again, call);
    }
    for (String call : more) {
      ask(again, call);
    }
    return again;
  }

  private void nothingChanged(String call) {
    boolean same = look(again()).equals(look(again(call)));
    if (same && call.matches("(tells|film|load|sheet|put|copy) .*")) {
      for (int sheet = 0; sheet < 4 && same; sheet++) {
        same = items(again(), sheet).equals(items(again(call), sheet));
      }
    }
    Check.holds("nothing changed by " + call, same);
  }

  /** All that can be asked of an object; the tape and the image are used up by it. */
  private static List<Integer> look(LiftSweeps x) {
    List<Integer> all = new ArrayList<>();
    lookAtHall(x, all);
    all.add(x.text());
    all.add(x.count(8));
    all.add(x.back());
    lookAtHall(x, all);
    return all;
  }

  private static void lookAtHall(LiftSweeps x, List<Integer> all) {
    for (int what = 0; what < 32; what++) {
      all.add(x.count(what));
    }
    for (int car = 0; car < x.count(1); car++) {
      for (int what = 0; what < 13; what++) {
        all.add(x.told(car, what));
      }
    }
    for (int group = 0; group < x.count(2); group++) {
      for (int what = 0; what < 8; what++) {
        all.add(x.group(group, what));
      }
    }
    for (int i = 0; i < x.count(6); i++) {
      for (int what = 0; what < 4; what++) {
        all.add(x.event(i, what));
      }
    }
    for (int what = 0; what < 5; what++) {
      all.add(x.oldest(what));
    }
    all.add(x.mean(0));
    all.add(x.done(0));
    all.add(x.done(1));
  }

  /** The items of a sheet, read as floors from which is called: -2 for what is no floor. */
  private static List<Integer> items(LiftSweeps x, int sheet) {
    List<Integer> all = new ArrayList<>();
    int sort = x.load(sheet, 0, 0, 0) == 0 ? 0 : 1;
    int spare = (sheet + 1) % 4;
    x.sheet(spare, sort, 3);
    for (int i = 0; i < 40 && x.copy(sheet, i, spare, 0, 1) == 1; i++) {
      x.build(12, 1);
      int called = -1;
      for (int to = 0; to < 2 && called < 1; to++) {
        x.put(spare, 1, to);
        x.put(spare, 2, 1);
        called = x.load(spare, sort, 0, 1);
      }
      all.add(called == 1 ? x.group(0, 0) : -2);
    }
    all.add(sort);
    all.add(x.put(sheet, 0, 0));
    return all;
  }
}
