import java.io.IOException;
import java.net.URL;
import java.net.URLClassLoader;
import java.nio.file.Files;
import java.nio.file.Path;
import java.util.regex.Matcher;
import java.util.regex.Pattern;
import javax.tools.ToolProvider;

// The example of README.md answers what is written beside it: "int name = ..; // value ..".
public final class ReadmeTest {
  private static final Pattern BLOCK = Pattern.compile("(?s)```java\n(.*?)```");
  private static final Pattern ANSWER = Pattern.compile("(int|long) (\\w+) = feast\\..*; +// (-?[0-9]+)\\b.*");

  private static int asked = 0;
  private static int wrong = 0;

  /** The example calls this behind each line that tells an answer. */
  public static void due(String line, long got, long want) {
    asked++;
    if (got == want) return;
    wrong++;
    System.out.println("README: " + line + " answered " + got);
  }

  public static void main(String[] args) throws Exception {
    String readme = Files.readString(Path.of("README.md"));
    Matcher block = BLOCK.matcher(readme);
    due("an example", block.find() ? 1 : 0, 1);
    runExample(block.group(1));
    due("answers in the example", asked > 10 ? 1 : 0, 1);
    for (String call : Document.read().face().keySet()) due("`" + call + "`", readme.contains("`" + call + "`") ? 1 : 0, 1);
    due("how to run the tests", readme.contains("\n    .ci/run\n") ? 1 : 0, 1);
    mustTellOfAllTests(readme);
    System.out.println(asked + " answers asked for, " + wrong + " not as due");
    if (wrong != 0) System.exit(1);
  }

  private static void runExample(String example) throws Exception {
    StringBuilder source = new StringBuilder("public final class Example { public static void main(String[] args) {\n");
    for (String line : example.split("\n")) {
      source.append(line).append('\n');
      Matcher m = ANSWER.matcher(line);
      if (m.matches()) source.append("ReadmeTest.due(\"" + m.group(2) + "\", " + m.group(2) + ", " + m.group(3) + ");\n");
    }
    Path out = Files.createTempDirectory("readme");
    Path file = Files.writeString(out.resolve("Example.java"), source.append("} }\n"));
    String classes = System.getProperty("java.class.path");
    int rc = ToolProvider.getSystemJavaCompiler().run(null, null, null, "-cp", classes, "-d", out.toString(), file.toString());
    due("the example compiles", rc, 0);
    if (rc == 0) {
      try (URLClassLoader loader = new URLClassLoader(new URL[] {out.toUri().toURL()})) {
        loader.loadClass("Example").getMethod("main", String[].class).invoke(null, (Object) new String[0]);
      }
    }
    Files.deleteIfExists(out.resolve("Example.class"));
    Files.delete(file);
    Files.delete(out);
  }

  private static void mustTellOfAllTests(String readme) throws IOException {
    try (var files = Files.list(Path.of("src/test/java"))) {
      for (Path file : files.toList()) {
        String name = file.getFileName().toString().replace(".java", "");
        boolean told = readme.contains("`" + name + "`") || name.startsWith("BoundsOf") && readme.contains("`BoundsOf..Test`");
        due("README tells of " + name, told ? 1 : 0, 1);
      }
    }
  }
}
