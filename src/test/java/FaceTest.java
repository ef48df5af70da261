import java.lang.reflect.Field;
import java.lang.reflect.Method;
import java.lang.reflect.Modifier;
import java.nio.charset.StandardCharsets;
import java.nio.file.Files;
import java.nio.file.Path;
import java.util.ArrayList;
import java.util.Arrays;
import java.util.Collections;
import java.util.List;

/**
 * The public face is that of the document and no more, and the source keeps to what LANGUAGE.md
 * says, as far as a look at its text can tell. Its argument is the path of the source.
 */
public final class FaceTest {
  private static final String OUT = "IndexOutOfBoundsException";
  private static final String BAD = "IllegalArgumentException";
  private static final String STATE = "IllegalStateException";

  private static final String[] FACE = {
    "int append 2 " + OUT + " " + BAD + " " + STATE,
    "int appendRow 3 " + OUT + " " + BAD + " " + STATE,
    "int fork 2 " + OUT + " " + BAD + " " + STATE,
    "int views 0",
    "int size 1 " + OUT,
    "int leaf 2 " + OUT,
    "int root 2 " + OUT + " " + BAD,
    "int rootAnew 2 " + OUT + " " + BAD,
    "int loadLeaf 3 " + OUT + " " + BAD,
    "int loadGrowth 3 " + OUT + " " + BAD,
    "int loadKey 1 " + BAD,
    "int change 2 " + OUT + " " + BAD + " " + STATE,
    "int shorten 0 " + STATE,
    "int sums 0",
    "int sumAt 1 " + OUT,
    "boolean testLeaf 4 " + OUT + " " + BAD,
    "boolean testGrowth 4 " + OUT + " " + BAD,
    "boolean testKey 2 " + BAD,
    "int put 2 " + BAD,
    "int remove 1 " + BAD,
    "int get 1 " + BAD,
    "int mapRoot 0",
    "boolean show 2 " + OUT,
    "boolean gossip 2 " + OUT,
    "void follow 2 " + OUT + " " + BAD,
    "boolean isAlarmed 1 " + OUT,
    "int keptSize 1 " + OUT,
    "int keptRoot 1 " + OUT,
    "int counted 1 " + OUT
  };

  /** What LANGUAGE.md leaves no room for. */
  private static final String[] RULED_OUT = {
    "import ", "package ", "->", "::", "try {", "catch", "finally", "synchronized", "assert ",
    "Exact(", "float ", "static {", "hashCode", "toString", ".equals(", "java."
  };

  public static void main(String[] args) throws Exception {
    Check face = new Check("the face");
    faceIsTheDocuments(face);
    Check source = new Check("the source");
    sourceKeepsTheRules(source, Path.of(args[0]));
    int passed = (face.holds() ? 1 : 0) + (source.holds() ? 1 : 0);
    System.out.println(passed + " passed, " + (2 - passed) + " failed");
    if (passed < 2) {
      System.exit(1);
    }
  }

  private static void faceIsTheDocuments(Check c) throws ReflectiveOperationException {
    Class<?> type = TreeheadGallery.class;
    c.same("modifiers", "public final", Modifier.toString(type.getModifiers()));
    c.same("constructors", "1", String.valueOf(type.getDeclaredConstructors().length));
    c.same("the constructor", "true", String.valueOf(
        Modifier.isPublic(type.getDeclaredConstructor().getModifiers())));
    List<String> want = new ArrayList<>(Arrays.asList(FACE));
    List<String> got = new ArrayList<>();
    List<String> hidden = new ArrayList<>();
    for (Method method : type.getDeclaredMethods()) {
      if (Modifier.isPrivate(method.getModifiers())) {
        hidden.add(method.getName());
        continue;
      }
      got.add(written(method));
    }
    for (String line : want) {
      String name = line.split(" ")[1];
      c.same("a private " + name, "false", String.valueOf(hidden.contains(name)));
    }
    Collections.sort(want);
    Collections.sort(got);
    c.same("methods", want.toString(), got.toString());
    for (Field field : type.getDeclaredFields()) {
      String wanted = field.getName().equals("NONE") ? "public static final" : "private";
      c.same(field.getName(), "true", String.valueOf(
          Modifier.toString(field.getModifiers()).startsWith(wanted)));
    }
    for (Class<?> inside : type.getDeclaredClasses()) {
      c.same(inside.getName(), "private static final", Modifier.toString(inside.getModifiers()));
    }
    c.same("NONE", "-1", String.valueOf(TreeheadGallery.NONE));
  }

  private static String written(Method method) {
    StringBuilder line = new StringBuilder();
    line.append(method.getReturnType()).append(' ').append(method.getName());
    line.append(' ').append(method.getParameterCount());
    for (Class<?> thrown : method.getExceptionTypes()) {
      line.append(' ').append(thrown.getSimpleName());
    }
    for (Class<?> parameter : method.getParameterTypes()) {
      line.append(parameter == int.class ? "" : " with " + parameter);
    }
    return line.toString();
  }

  private static void sourceKeepsTheRules(Check c, Path path) throws Exception {
    String text = Files.readString(path, StandardCharsets.UTF_8);
    for (int i = 0; i < text.length(); i++) {
      char sign = text.charAt(i);
      if (sign > 126 || sign < 32 && sign != '\n') {
        c.same("the sign at " + i, "printable ASCII", String.valueOf((int) sign));
      }
    }
    for (String ruledOut : RULED_OUT) {
      c.same(ruledOut, "false", String.valueOf(text.contains(ruledOut)));
    }
    c.same("classes, at most 12", "true", String.valueOf(
        text.split("\\b(class|interface|enum|record) [A-Z]").length - 1 <= 12));
    c.same("a method longer than 60 lines", "0", String.valueOf(longMethods(text)));
  }

  /** Methods close with a brace that stands as deep as their first line. */
  private static int longMethods(String text) {
    int found = 0;
    int start = -1;
    String[] lines = text.split("\n");
    for (int i = 0; i < lines.length; i++) {
      boolean opens = lines[i].matches("( {2}| {4})[a-zA-Z].*\\(.*") && !lines[i].endsWith(";");
      if (opens) {
        start = i;
      }
      if (lines[i].matches("( {2}| {4})}") && start >= 0) {
        found += i - start > 60 ? 1 : 0;
        start = -1;
      }
    }
    return found;
  }
}
