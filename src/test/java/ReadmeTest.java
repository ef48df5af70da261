import java.lang.reflect.Method;
import java.nio.charset.StandardCharsets;
import java.nio.file.Files;
import java.nio.file.Path;
import java.util.HashSet;
import java.util.List;
import java.util.Set;
import java.util.TreeSet;
import java.util.regex.Matcher;
import java.util.regex.Pattern;
import java.util.stream.Stream;

/**
 * What README.md shows of the use of the class answers as README.md says. Its second argument is
 * the path of the checkout.
 */
public final class ReadmeTest {
  private static final String NEW_OBJECT = "TreeheadGallery gallery = new TreeheadGallery();";

  /** A call with the answer behind it: the comment's words up to a colon. */
  private static final Pattern SHOWN =
      Pattern.compile("gallery\\.(\\w+\\((?:[^()]*)\\)); +// ([^:]+)(: .+)?");

  private static final Pattern TEST_NAMED = Pattern.compile("`(\\w+Test)`");

  public static void main(String[] args) throws Exception {
    Path root = Path.of(args[1]);
    List<String> lines = Files.readAllLines(root.resolve("README.md"), StandardCharsets.UTF_8);
    Check use = new Check("the use that README.md shows");
    useAnswersAsShown(use, lines);
    Check tests = new Check("the tests that README.md names");
    testsAreNamed(tests, lines, root.resolve("src/test/java"));
    int passed = (use.holds() ? 1 : 0) + (tests.holds() ? 1 : 0);
    System.out.println(passed + " passed, " + (2 - passed) + " failed");
    if (passed < 2) {
      System.exit(1);
    }
  }

  /** The parts of README.md that are marked as Java begin with a new object each. */
  private static void useAnswersAsShown(Check c, List<String> lines) {
    Set<String> names = new HashSet<>();
    TreeheadGallery gallery = null;
    boolean isJava = false;
    for (String line : lines) {
      if (line.startsWith("```")) {
        isJava = line.equals("```java");
        gallery = null;
      } else if (isJava && line.equals(NEW_OBJECT)) {
        gallery = new TreeheadGallery();
      } else if (isJava) {
        lineAnswersAsShown(c, gallery, line, names);
      }
    }
    for (Method method : TreeheadGallery.class.getMethods()) {
      if (method.getDeclaringClass() == TreeheadGallery.class) {
        c.same(method.getName() + " is shown", "true",
            String.valueOf(names.contains(method.getName())));
      }
    }
  }

  private static void lineAnswersAsShown(
      Check c, TreeheadGallery gallery, String line, Set<String> names) {
    Matcher shown = SHOWN.matcher(line);
    boolean isRead = gallery != null && shown.matches();
    c.same("a call with its answer, of an object: " + line, "true", String.valueOf(isRead));
    if (!isRead) {
      return;
    }
    String told = shown.group(1).replace("TreeheadGallery.NONE", "-1");
    names.add(Calls.nameOf(told));
    c.same(told, shown.group(2).trim().replace("throws ", "throws."), Calls.answer(gallery, told));
  }

  private static void testsAreNamed(Check c, List<String> lines, Path folder) throws Exception {
    Set<String> named = new TreeSet<>();
    for (String line : lines) {
      Matcher name = TEST_NAMED.matcher(line);
      while (name.find()) {
        named.add(name.group(1));
      }
    }
    Set<String> there = new TreeSet<>();
    try (Stream<Path> files = Files.list(folder)) {
      files.map(file -> file.getFileName().toString())
          .filter(name -> name.endsWith("Test.java"))
          .forEach(name -> there.add(name.substring(0, name.length() - ".java".length())));
    }
    c.same("the tests", there.toString(), named.toString());
  }
}
