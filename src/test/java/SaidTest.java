import java.io.IOException;
import java.lang.reflect.Method;
import java.util.ArrayList;
import java.util.List;

// Each word of the terms and promises stands in the words that some test of BoundsOf..Test bears.
public final class SaidTest {
  private static final Class<?>[] TESTS = {
    BoundsOfDaleTest.class, BoundsOfFaceTest.class, BoundsOfPairsTest.class, BoundsOfReadingsTest.class,
    BoundsOfRingsTest.class, BoundsOfSheetsTest.class, BoundsOfTermsTest.class
  };
  /** No call has a quotient that could be cut. */
  private static final List<String> NOT_TO_BE_SHOWN = List.of("Quotients are cut");
  private static final int PROMISES = 34, TERMS = 5;

  public static void main(String[] args) throws IOException {
    Document document = Document.read();
    int wrong = 0;
    for (String part : parts()) {
      for (String left : leftOver(document, part)) {
        wrong++;
        System.out.println(part + ": no test holds to: " + left);
      }
    }
    System.out.println(parts().size() + " parts of the document, " + wrong + " passages that no test holds to");
    if (wrong != 0) System.exit(1);
  }

  private static List<String> parts() {
    List<String> parts = new ArrayList<>(List.of("Terms"));
    for (int t = 1; t <= TERMS; t++) parts.add("Terms " + t);
    for (int p = 1; p <= PROMISES; p++) parts.add("Promise " + p);
    return parts;
  }

  private static List<String> leftOver(Document document, String part) {
    String text = Document.plain(document.part(part));
    boolean[] said = new boolean[text.length()];
    for (String words : wordsOf(part)) mark(text, Document.plain(words), said);
    for (String words : NOT_TO_BE_SHOWN) mark(text, words, said);
    markHeads(text, said);
    List<String> left = new ArrayList<>();
    StringBuilder run = new StringBuilder();
    for (int i = 0; i <= text.length(); i++) {
      if (i < text.length() && !said[i]) {
        run.append(text.charAt(i));
      } else {
        if (run.toString().matches(".*[A-Za-z0-9].*")) left.add(run.toString().trim());
        run.setLength(0);
      }
    }
    return left;
  }

  private static List<String> wordsOf(String part) {
    List<String> all = new ArrayList<>();
    for (Class<?> tests : TESTS) {
      for (Method m : tests.getDeclaredMethods()) {
        Bounds.Says says = m.getAnnotation(Bounds.Says.class);
        if (says != null && says.of().equals(part)) all.addAll(List.of(says.words()));
      }
    }
    return all;
  }

  private static void mark(String text, String words, boolean[] said) {
    for (int at = text.indexOf(words); at >= 0; at = text.indexOf(words, at + 1)) {
      for (int i = at; i < at + words.length(); i++) said[i] = true;
    }
  }

  /** Titles, a promise's own call, and the signs of the document's form say nothing that could be tested. */
  private static void markHeads(String text, boolean[] said) {
    int end = text.startsWith(" ## Promise") ? text.indexOf("`:") + 2 : text.startsWith(" ## ") ? " ## Terms".length() : " ==== 1".length();
    for (int i = 0; i < end && i < said.length; i++) said[i] = true;
    mark(text, "```text", said);
    mark(text, "```", said);
  }
}
