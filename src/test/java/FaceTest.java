import java.lang.management.ManagementFactory;
import java.lang.reflect.Constructor;
import java.lang.reflect.Field;
import java.lang.reflect.Method;
import java.lang.reflect.Modifier;
import java.util.Arrays;
import java.util.List;
import java.util.TreeSet;

/** The public face, and what of ../shared/LANGUAGE.md is seen when the class runs. */
final class FaceTest {
  private static final List<String> FACE = List.of(
      "build 2", "car 4", "told 2", "taken 2", "call 3", "group 2", "way 1", "gap 1", "cost 2",
      "give 2", "regive 0", "tick 0", "ticks 1", "park 0", "demand 2", "sweep 2", "near 3",
      "oldest 1", "mean 1", "done 1", "would 3", "soonest 1", "drawn 3", "chance 4", "feed 6",
      "text 0", "event 2", "tells 3", "film 3", "load 4", "image 0", "back 0", "count 1",
      "sheet 3", "put 3", "copy 5");

  private FaceTest() {}

  static void run() {
    constants();
    members();
    nested();
    nothingIsMade();
  }

  private static void constants() {
    Check.begin("face: constants");
    Check.due("NONE", LiftSweeps.NONE, -1);
    Check.due("BAD", LiftSweeps.BAD, -2);
    Check.due("STATE", LiftSweeps.STATE, -3);
    Check.due("FULL", LiftSweeps.FULL, -4);
  }

  private static void members() {
    Check.begin("face: members");
    Class<?> face = LiftSweeps.class;
    Check.holds("public final", Modifier.isPublic(face.getModifiers())
        && Modifier.isFinal(face.getModifiers()));
    TreeSet<String> found = new TreeSet<>();
    for (Method m : face.getDeclaredMethods()) {
      if (!Modifier.isPrivate(m.getModifiers())) {
        found.add(m.getName() + " " + m.getParameterCount());
        Check.holds(m.getName() + " is public", Modifier.isPublic(m.getModifiers()));
        Check.holds(m.getName() + " answers an int", m.getReturnType() == int.class);
        Check.holds(m.getName() + " takes ints",
            Arrays.stream(m.getParameterTypes()).allMatch(t -> t == int.class));
      } else {
        Check.holds(m.getName() + " is no public one's name",
            FACE.stream().noneMatch(f -> f.startsWith(m.getName() + " ")));
      }
    }
    Check.holds("just the methods of the face", found.equals(new TreeSet<>(FACE)));
    TreeSet<String> fields = new TreeSet<>();
    for (Field f : face.getDeclaredFields()) {
      if (!Modifier.isPrivate(f.getModifiers())) {
        fields.add(f.getName());
      }
      boolean constant = Modifier.isFinal(f.getModifiers()) || !Modifier.isStatic(f.getModifiers());
      Check.holds(f.getName() + " is final if it is static", constant);
    }
    Check.holds("just the constants of the face",
        fields.equals(new TreeSet<>(List.of("NONE", "BAD", "STATE", "FULL"))));
    Constructor<?>[] made = face.getDeclaredConstructors();
    Check.holds("one public constructor without arguments", made.length == 1
        && Modifier.isPublic(made[0].getModifiers()) && made[0].getParameterCount() == 0);
  }

  private static void nested() {
    Check.begin("language: classes inside");
    Class<?>[] inside = LiftSweeps.class.getDeclaredClasses();
    Check.holds("some twelve classes at most", inside.length <= 11);
    for (Class<?> c : inside) {
      int how = c.getModifiers();
      Check.holds(c.getSimpleName() + " is static", Modifier.isStatic(how));
      Check.holds(c.getSimpleName() + " is not public", !Modifier.isPublic(how));
      long fields = Arrays.stream(c.getDeclaredFields())
          .filter(f -> !Modifier.isStatic(f.getModifiers())).count();
      Check.holds(c.getSimpleName() + " has twenty fields at most", fields <= 20);
      for (Method m : c.getDeclaredMethods()) {
        Check.holds(m.getName() + " has seven parameters at most", m.getParameterCount() <= 7);
        Check.holds(m.getName() + " is no public one's name",
            FACE.stream().noneMatch(f -> f.startsWith(m.getName() + " ")));
      }
    }
  }

  /** The rows of all calls are made by the constructor, so that a long run stays small. */
  private static void nothingIsMade() {
    Check.begin("language: calls make nothing");
    if (!(ManagementFactory.getThreadMXBean() instanceof com.sun.management.ThreadMXBean threads)
        || !threads.isThreadAllocatedMemorySupported()) {
      return;
    }
    LiftSweeps x = new LiftSweeps();
    long id = Thread.currentThread().getId();
    dear(x);
    long before = threads.getThreadAllocatedBytes(id);
    for (int i = 0; i < 50; i++) {
      dear(x);
    }
    long made = threads.getThreadAllocatedBytes(id) - before;
    Check.holds("fewer than 20000 bytes, not " + made, made < 20000);
  }

  private static void dear(LiftSweeps x) {
    x.build(12, 4);
    x.way(2);
    for (int i = 0; i < 12; i++) {
      x.call(i, (i * 5 + 3) % 12, 1 + i % 4);
    }
    x.regive();
    x.chance(3, 6, 30, 0);
    x.drawn(5, 6, 0);
    x.done(0);
    x.soonest(11);
    x.film(0, 0, 30);
    x.tells(0, 0, 1);
    x.tells(0, 0, 2);
    x.load(0, 0, 0, 6);
    x.image();
    x.back();
    x.ticks(99);
    x.feed(4, 'p', 'a', 'r', 'k', 0);
    x.text();
  }
}
