import java.io.IOException;
import java.lang.reflect.InvocationTargetException;
import java.lang.reflect.Method;
import java.lang.reflect.Modifier;
import java.net.URL;
import java.net.URLClassLoader;
import java.nio.file.Files;
import java.nio.file.Path;
import java.util.ArrayList;
import java.util.Comparator;
import java.util.List;
import java.util.Set;
import java.util.TreeSet;
import java.util.regex.Matcher;
import java.util.regex.Pattern;
import java.util.stream.Stream;
import javax.tools.ToolProvider;

/** README.md's examples: each call that is told there with its answer answers so, and none is missing. */
public final class WheatCountsReadmeTest {
  private static final Pattern CALL = Pattern.compile("x\\.(\\w+)\\((.*)\\);\\s*// (-?\\d+)(:.*)?");

  private static final StringBuilder members = new StringBuilder();
  private static final StringBuilder statements = new StringBuilder();
  private static final Set<String> called = new TreeSet<>();
  private static final List<String> faults = new ArrayList<>();
  private static int calls = 0;

  private WheatCountsReadmeTest() {
  }

  /** Called by the examples, when they run. */
  public static void due(String call, int got, int want) {
    if (got != want) {
      faults.add(call + " answers " + got + ", README.md tells " + want);
    }
  }

  public static void main(String[] args) throws Exception {
    String example = "";
    boolean inside = false;
    for (String line : Files.readAllLines(Path.of("README.md"))) {
      if (line.equals("```java")) {
        inside = true;
        example = "";
      } else if (line.startsWith("```")) {
        if (inside) {
          takeExample(example);
        }
        inside = false;
      } else if (inside) {
        example += line + "\n";
      }
    }
    run();
    for (Method method : WheatCounts.class.getDeclaredMethods()) {
      if (Modifier.isPublic(method.getModifiers()) && !called.contains(method.getName())) {
        faults.add("README.md has no example of " + method.getName());
      }
    }
    faults.forEach(System.out::println);
    System.out.println(calls + " calls are told in README.md, " + faults.size() + " faults");
    if (!faults.isEmpty() || calls == 0) {
      System.exit(1);
    }
  }

  private static void takeExample(String example) {
    if (example.startsWith("static ")) {
      members.append(example);
      return;
    }
    for (String line : example.split("\n")) {
      Matcher call = CALL.matcher(line);
      if (call.matches()) {
        String words = "x." + call.group(1) + "(" + call.group(2) + ")";
        statements.append("WheatCountsReadmeTest.due(\"").append(words.replace("\"", "\\\"")).append("\", ")
            .append(words).append(", ").append(call.group(3)).append(");\n");
        called.add(call.group(1));
        calls++;
      } else {
        statements.append(line).append("\n");
      }
    }
  }

  private static void run() throws IOException, ReflectiveOperationException {
    Path place = Files.createTempDirectory("readme");
    try {
      Path file = place.resolve("Examples.java");
      Files.writeString(file, "public class Examples {\n" + members + "public static void run() {\n" + statements
          + "}\n}\n");
      int refused = ToolProvider.getSystemJavaCompiler().run(null, null, null, "-encoding", "UTF-8",
          "-cp", System.getProperty("java.class.path"), "-d", place.toString(), file.toString());
      if (refused != 0) {
        faults.add("the examples of README.md do not compile");
        return;
      }
      try (URLClassLoader loader = new URLClassLoader(new URL[] {place.toUri().toURL()})) {
        loader.loadClass("Examples").getMethod("run").invoke(null);
      } catch (InvocationTargetException thrown) {
        faults.add("an example of README.md throws " + thrown.getCause());
      }
    } finally {
      try (Stream<Path> made = Files.walk(place)) {
        for (Path path : made.sorted(Comparator.reverseOrder()).toList()) {
          Files.delete(path);
        }
      }
    }
  }
}
