import java.io.IOException;
import java.nio.file.Files;
import java.nio.file.Path;

/** Runs the project's own tests; writes "passed failed" to the file that is named. */
public final class AllTests {
  private AllTests() {}

  public static void main(String[] args) throws IOException {
    FaceTest.run();
    LanguageTest.run();
    ReadmeTest.run();
    TermsTest.run();
    PromisesTest.run();
    FloorsTest.run();
    CallsTest.run();
    TicksTest.run();
    ThoughtTest.run();
    TextTest.run();
    ToldTest.run();
    HostTest.run();
    ModelTest.run();
    Check.end();
    if (args.length > 0) {
      Files.writeString(Path.of(args[0]), Check.passed() + " " + Check.failed() + "\n");
    } else {
      System.out.println(Check.passed() + " passed, " + Check.failed() + " failed");
    }
    if (Check.failed() > 0) {
      System.exit(1);
    }
  }
}
