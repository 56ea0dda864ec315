import java.io.IOException;
import java.nio.file.Files;
import java.nio.file.Path;
import java.util.List;
import java.util.stream.Collectors;
import java.util.stream.Stream;

/** README.md: its example answers what it says, and it names all there is to run and to read. */
public final class ReadmeTest {
  private final Checks checks = new Checks("ReadmeTest");
  private final String readme;

  private ReadmeTest() throws IOException {
    readme = Files.readString(Path.of("README.md"));
  }

  public static void main(String[] args) throws IOException {
    ReadmeTest test = new ReadmeTest();
    test.example();
    test.howToRun();
    test.names();
    test.checks.ends();
  }

  private void says(String words) {
    checks.holds("README.md says: " + words, readme.contains(words));
  }

  private void answers(String line, int got, int due) {
    says(line);
    checks.due(line, got, due);
  }

  private void example() {
    says("CoresAreWills x = new CoresAreWills();");
    CoresAreWills x = new CoresAreWills();
    says("for (char c : \"hn2;b300;\".toCharArray()) x.letter(c);");
    for (char c : "hn2;b300;".toCharArray()) x.letter(c);
    answers("x.core();        // 2:", x.core(), 2);
    answers("x.heir(0, 2);    // 5:", x.heir(0, 2), 5);
    answers("x.bites(0, 12);  // 20:", x.bites(0, 12), 20);
    answers("x.best(0, 0);    // -9:", x.best(0, 0), -9);
    answers("x.heir(1, 2);    // -1:", x.heir(1, 2), -1);
    answers("x.count(11);     // 1:", x.count(11), 1);
  }

  private void howToRun() {
    says("    .ci/run\n");
    checks.holds(".ci/run can be run", Files.isExecutable(Path.of(".ci/run")));
  }

  private void names() throws IOException {
    try (Stream<Path> files = Files.list(Path.of("src/test/java"))) {
      List<String> names = files.map(file -> file.getFileName().toString())
          .filter(name -> name.endsWith(".java")).collect(Collectors.toList());
      for (String name : names) says("`" + name.replace(".java", "") + "`");
    }
    for (Class<?> inside : CoresAreWills.class.getDeclaredClasses()) {
      says("- `" + inside.getSimpleName() + "`");
    }
  }
}
