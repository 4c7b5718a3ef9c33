import java.io.ByteArrayOutputStream;
import java.io.PrintStream;
import java.net.URL;
import java.net.URLClassLoader;
import java.nio.charset.StandardCharsets;
import java.nio.file.Files;
import java.nio.file.Path;
import java.util.ArrayList;
import java.util.List;
import java.util.regex.Matcher;
import java.util.regex.Pattern;
import javax.tools.ToolProvider;

/**
 * The example in README.md runs, and prints what its own comments say; and README.md names every
 * call of the face. It must be run from the folder of the project, as .ci/run does.
 */
final class ReadmeTest {
  private static final String PROGRAM = "src/main/java/PriceIrons.java";
  private static final Pattern EXAMPLE = Pattern.compile("(?s)\n```java\n(.*?)\n```\n");
  /** What is printed stands behind the call, up to a colon or the line's end. */
  private static final Pattern PRINTED =
      Pattern.compile("System\\.out\\.println\\(.*\\); *// ([^:\n]*)");

  private static final Check check = new Check("ReadmeTest");

  public static void main(String[] args) throws Exception {
    String readme = Files.readString(Path.of("README.md"), StandardCharsets.UTF_8);
    Matcher example = EXAMPLE.matcher(readme);
    boolean found = example.find();
    check.due("README.md has an example", found, true);
    if (found) {
      runs(example.group(1));
    }
    namesEachCall(readme);
    check.finish();
  }

  private static void runs(String example) throws Exception {
    List<String> due = new ArrayList<>();
    Matcher line = PRINTED.matcher(example);
    while (line.find()) {
      due.add(line.group(1));
    }
    check.due("the example prints something", due.isEmpty(), false);
    List<String> printed = printed(example);
    if (!printed.equals(due)) {
      check.wrong("the example printed " + printed + ", README.md says " + due);
    }
  }

  private static List<String> printed(String example) throws Exception {
    Path folder = Files.createTempDirectory("readme");
    Path source = folder.resolve("Example.java");
    Files.writeString(source, example, StandardCharsets.UTF_8);
    int exit = ToolProvider.getSystemJavaCompiler().run(null, null, null,
        "--release", "17", "-d", folder.toString(), PROGRAM, source.toString());
    check.due("javac's exit code", exit, 0);
    List<String> printed = exit == 0 ? printedBy(folder) : List.of();
    removeAll(folder);
    return printed;
  }

  private static List<String> printedBy(Path folder) throws Exception {
    PrintStream screen = System.out;
    ByteArrayOutputStream bytes = new ByteArrayOutputStream();
    URL[] from = {folder.toUri().toURL()};
    // The platform's loader above it, so that the example finds the class that it was built with.
    try (URLClassLoader loader = new URLClassLoader(from, ClassLoader.getPlatformClassLoader())) {
      System.setOut(new PrintStream(bytes, true, StandardCharsets.UTF_8));
      String[] none = {};
      loader.loadClass("Example").getMethod("main", String[].class).invoke(null, (Object) none);
    } finally {
      System.setOut(screen);
    }
    return bytes.toString(StandardCharsets.UTF_8).lines().toList();
  }

  private static void removeAll(Path folder) throws Exception {
    try (var files = Files.list(folder)) {
      for (Path file : files.toList()) {
        Files.delete(file);
      }
    }
    Files.delete(folder);
  }

  private static void namesEachCall(String readme) {
    String behindExample = readme.substring(Math.max(0, readme.lastIndexOf("```")));
    for (var method : PriceIrons.class.getDeclaredMethods()) {
      if (java.lang.reflect.Modifier.isPublic(method.getModifiers())) {
        String quoted = "`" + method.getName() + "`";
        check.due("README.md names " + quoted, behindExample.contains(quoted), true);
      }
    }
  }
}
