import java.io.IOException;
import java.nio.file.Files;
import java.nio.file.Path;
import java.util.ArrayList;
import java.util.LinkedHashMap;
import java.util.LinkedHashSet;
import java.util.List;
import java.util.Map;
import java.util.Set;
import java.util.regex.Matcher;
import java.util.regex.Pattern;

// The document, cut into the parts that tests name.
final class Document {
  private static final Path FILE = Path.of("../shared/DOC.md");
  private static final Pattern METHOD = Pattern.compile("public (int|long) (\\w+)\\(([^)]*)\\);");
  private static final Pattern CONSTANT = Pattern.compile("([A-Z]+) = (-?[0-9]+|Long\\.MIN_VALUE)");
  private static final Pattern HEADING = Pattern.compile("Ahead of the calls (.*) the interface says: (.*)\\.");

  private final String text;

  private Document(String text) { this.text = text; }

  static Document read() throws IOException { return new Document(Files.readString(FILE)); }

  /** "Promise 5"; "Terms" (what stands ahead of the first term), "Terms 1"; "Headings"; another chapter. */
  String part(String of) {
    if (of.startsWith("Promise ")) return between("\n## " + of + ":", "\n## ");
    if (of.equals("Terms")) return between("\n## Terms", "\n==== 1");
    if (of.startsWith("Terms ")) return between("\n==== " + of.substring(6), "\n====", "\nAhead of");
    if (of.equals("Headings")) return between("\nAhead of", "\n## ");
    return between("\n## " + of, "\n## ");
  }

  boolean says(String of, String words) { return plain(part(of)).contains(plain(words)); }

  /** The methods of the face by name, each as it is written there. */
  Map<String, String> face() {
    Map<String, String> methods = new LinkedHashMap<>();
    Matcher m = METHOD.matcher(part("The public face"));
    while (m.find()) methods.put(m.group(2), m.group(1) + " " + m.group(2) + "(" + m.group(3) + ")");
    return methods;
  }

  /** The constants of the face with their types and values, as "int NONE -9". */
  Set<String> constants() {
    Set<String> constants = new LinkedHashSet<>();
    for (String line : part("The public face").split("\n")) {
      String type = line.contains("static final long") ? "long" : "int";
      Matcher m = CONSTANT.matcher(line);
      while (m.find()) constants.add(type + " " + m.group(1) + " " + valueOf(m.group(2)));
    }
    return constants;
  }

  private static long valueOf(String told) { return told.startsWith("Long") ? Long.MIN_VALUE : Long.parseLong(told); }

  /** What the interface says, with the calls ahead of which it says so. */
  Map<String, List<String>> headings() {
    Map<String, List<String>> headings = new LinkedHashMap<>();
    Matcher m = HEADING.matcher(part("Headings"));
    while (m.find()) {
      List<String> calls = new ArrayList<>();
      for (String call : m.group(1).split(", ")) calls.add(call.replace("`", ""));
      headings.put(m.group(2), calls);
    }
    return headings;
  }

  static String plain(String text) { return text.replaceAll("\\s+", " "); }

  private String between(String from, String... untilAny) {
    int begin = text.indexOf(from);
    if (begin < 0) return "";
    int end = text.length();
    for (String until : untilAny) {
      int at = text.indexOf(until, begin + from.length());
      if (at >= 0 && at < end) end = at;
    }
    return text.substring(begin, end);
  }
}
