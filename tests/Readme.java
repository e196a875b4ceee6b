import java.io.File;
import java.io.IOException;
import java.lang.reflect.Method;
import java.lang.reflect.Modifier;
import java.net.URL;
import java.net.URLClassLoader;
import java.nio.charset.StandardCharsets;
import java.nio.file.Files;
import java.nio.file.Path;
import java.nio.file.Paths;
import java.util.ArrayList;
import java.util.List;
import java.util.Set;
import java.util.TreeSet;
import java.util.regex.Matcher;
import java.util.regex.Pattern;
import javax.tools.ToolProvider;

/**
 * Compiles the example of README.md as it stands there, and looks whether each call answers (or throws) what
 * the comment behind it begins with; run from the project's root.
 */
public final class Readme {
  private static final Pattern CALL = Pattern.compile("(net\\.(\\w+)\\(.*\\));\\s+// (\\S+?)(:.*)?");
  private static final Pattern NAMED = Pattern.compile("\\| `(\\w+)\\(");
  private static int checks = 0;
  private static int wrong = 0;

  public static void main(String[] args) throws Exception {
    String readme = new String(Files.readAllBytes(Paths.get("README.md")), StandardCharsets.UTF_8);
    List<String> example = example(readme);
    Path place = Files.createTempDirectory("readme");
    try {
      runExample(place, example);
    } finally {
      clear(place);
    }
    tablesNameTheFace(readme);
    System.out.println(checks + " checks of README.md, " + wrong + " were wrong");
    if (wrong != 0) System.exit(1);
  }

  /** What stands between the only ```java and the ``` behind it. */
  private static List<String> example(String readme) {
    List<String> lines = new ArrayList<>();
    boolean isInside = false;
    for (String line : readme.split("\n")) {
      if (line.equals("```")) isInside = false;
      if (isInside) lines.add(line);
      if (line.equals("```java")) isInside = true;
    }
    check("lines of the example", lines.size() > 20, true);
    return lines;
  }

  private static void runExample(Path place, List<String> example) throws Exception {
    Path source = place.resolve("Example.java");
    Files.write(source, program(example).getBytes(StandardCharsets.UTF_8));
    int code = ToolProvider.getSystemJavaCompiler().run(null, null, null, "-cp", System.getProperty("java.class.path"),
        "-d", place.toString(), source.toString());
    check("compiling the example", code, 0);
    if (code != 0) return;
    try (URLClassLoader loader = new URLClassLoader(new URL[] {place.toUri().toURL()})) {
      Object[] got = (Object[]) loader.loadClass("Example").getMethod("answers").invoke(null);
      compare(example, got);
    }
  }

  /** Each call of the example keeps its answer, or the name of what it throws. */
  private static String program(List<String> example) {
    StringBuilder s = new StringBuilder("public final class Example {\n  public static Object[] answers() {\n");
    s.append("    Object[] got = new Object[").append(example.size()).append("];\n");
    for (int k = 0; k < example.size(); k++) {
      Matcher m = CALL.matcher(example.get(k));
      if (m.matches()) {
        s.append("    try { got[").append(k).append("] = ").append(m.group(1)).append("; }");
        s.append(" catch (RuntimeException e) { got[").append(k).append("] = e.getClass().getSimpleName(); }\n");
      } else {
        s.append(example.get(k)).append('\n');
      }
    }
    return s.append("    return got;\n  }\n}\n").toString();
  }

  private static void compare(List<String> example, Object[] got) {
    int calls = 0;
    for (int k = 0; k < example.size(); k++) {
      Matcher m = CALL.matcher(example.get(k));
      if (!m.matches()) continue;
      calls++;
      check(m.group(1) + " in the example", String.valueOf(got[k]), m.group(3));
    }
    check("lines of the example without an answer", example.size() - calls, 1);
  }

  private static void tablesNameTheFace(String readme) {
    Set<String> named = new TreeSet<>();
    Matcher m = NAMED.matcher(readme);
    while (m.find()) named.add(m.group(1));
    Set<String> face = new TreeSet<>();
    for (Method method : Twincuts.class.getDeclaredMethods()) {
      if (Modifier.isPublic(method.getModifiers())) face.add(method.getName());
    }
    check("the calls that the tables name", named, face);
  }

  private static void clear(Path place) throws IOException {
    File[] inside = place.toFile().listFiles();
    if (inside != null) for (File file : inside) Files.delete(file.toPath());
    Files.delete(place);
  }

  private static void check(String what, Object got, Object due) {
    checks++;
    if (!due.equals(got)) {
      wrong++;
      System.out.println(what + ": answered " + got + ", due is " + due);
    }
  }
}
