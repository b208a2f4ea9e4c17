import java.io.IOException;
import java.lang.reflect.Constructor;
import java.lang.reflect.Field;
import java.lang.reflect.Method;
import java.lang.reflect.Modifier;
import java.nio.file.Files;
import java.nio.file.Path;
import java.util.Arrays;
import java.util.TreeSet;
import java.util.regex.Matcher;
import java.util.regex.Pattern;

// The face of the document, and those rules of LANGUAGE.md that can be seen from outside.
public final class LanguageTest {
  private static final String[] FACE = {
    "int dale(int,int,int,int)", "int ofGirl(int,int)", "int ofThrower(int,int)", "int freeze(int)",
    "int lean(int,int)", "int place(int,int)", "int train(int,int)", "int measure(int,int)",
    "int hurl(int,int)", "int lift(int)", "int clear(int)", "int feast(int,int,int,int,int)",
    "int wins(int)", "int match(int)", "int weds(int)", "int even(int,int,int)",
    "int reading(int,int,int)", "int back(int)", "int leans(int)", "int arms(int)", "int kinds(int)",
    "long odds(int,int,int)", "int sheet(int,int,int)", "int lose(int)", "int put(int,int,int)",
    "long cell(int,int,int)", "int copy(int,int,int,int,int)", "int tell(int)", "int cheer(int)",
    "int as(int,int)", "int trace()", "int fault()", "int many(int)"
  };
  private static final String FORBIDDEN =
      "\\b(throw|throws|try|catch|synchronized|assert|import|package|protected|native|volatile|transient)\\b"
      + "|->|::|@|\\bSystem\\.(?!arraycopy)|\\bObject\\b|\\bRuntimeException\\b|Exact\\b|\\bvar\\b";
  private static int wrong = 0;

  private static void must(boolean holds, String what) {
    if (!holds) {
      wrong++;
      System.out.println(what);
    }
  }

  public static void main(String[] args) throws IOException {
    face();
    members();
    source(Files.readString(Path.of("src/main/java/QuoitFeast.java")));
    System.out.println(wrong == 0 ? "the face and the language are kept" : wrong + " rules are broken");
    if (wrong != 0) System.exit(1);
  }

  private static void face() {
    TreeSet<String> seen = new TreeSet<>();
    for (Method m : QuoitFeast.class.getDeclaredMethods()) {
      if (Modifier.isPrivate(m.getModifiers())) continue;
      must(Modifier.isPublic(m.getModifiers()) && !Modifier.isStatic(m.getModifiers()), "not of the face: " + m);
      StringBuilder text = new StringBuilder(m.getReturnType() + " " + m.getName() + "(");
      for (int p = 0; p < m.getParameterCount(); p++) {
        text.append(p == 0 ? "" : ",").append(m.getParameterTypes()[p]);
      }
      seen.add(text.append(")").toString());
    }
    must(seen.equals(new TreeSet<>(Arrays.asList(FACE))), "the face is " + seen);
    Constructor<?>[] makers = QuoitFeast.class.getDeclaredConstructors();
    must(makers.length == 1 && Modifier.isPublic(makers[0].getModifiers()), "one public constructor");
    int modifiers = QuoitFeast.class.getModifiers();
    must(Modifier.isPublic(modifiers) && Modifier.isFinal(modifiers), "public and final");
  }

  private static void members() {
    TreeSet<String> constants = new TreeSet<>();
    for (Field f : QuoitFeast.class.getDeclaredFields()) {
      if (!Modifier.isPrivate(f.getModifiers())) constants.add(f.getName());
      must(!Modifier.isStatic(f.getModifiers()) || Modifier.isFinal(f.getModifiers()), "static and not final: " + f);
    }
    must(constants.toString().equals("[FULL, LOST, NONE, OUTSIDE, STATE, UNKNOWN]"), "constants " + constants);
    TreeSet<String> names = new TreeSet<>();
    for (String line : FACE) names.add(line.substring(line.indexOf(' ') + 1, line.indexOf('(')));
    Class<?>[] inside = QuoitFeast.class.getDeclaredClasses();
    must(inside.length <= 11, "at most twelve classes");
    for (Class<?> c : inside) {
      must(Modifier.isStatic(c.getModifiers()) && !Modifier.isPublic(c.getModifiers()), "static and hidden: " + c);
      for (Method m : c.getDeclaredMethods()) must(!names.contains(m.getName()), "bears a name of the face: " + m);
      int fields = 0;
      for (Field f : c.getDeclaredFields()) fields += Modifier.isStatic(f.getModifiers()) ? 0 : 1;
      must(fields <= 20, "too many fields: " + c);
    }
    for (Method m : QuoitFeast.class.getDeclaredMethods()) {
      must(!Modifier.isPrivate(m.getModifiers()) || !names.contains(m.getName()), "bears a name of the face: " + m);
      must(m.getParameterCount() <= 7, "too many parameters: " + m);
    }
  }

  private static void source(String text) {
    for (int i = 0; i < text.length(); i++) must(text.charAt(i) < 128, "a sign above 127 at " + i);
    String bare = text.replaceAll("(?s)/\\*.*?\\*/", " ").replaceAll("//[^\n]*", " ");
    Matcher m = Pattern.compile(FORBIDDEN).matcher(bare);
    while (m.find()) must(false, "not of the language: " + m.group());
    must(!bare.contains("\""), "texts are not needed");
    methodsStayShort(text);
  }

  private static void methodsStayShort(String text) {
    String[] lines = text.split("\n");
    int opened = -1;
    for (int l = 0; l < lines.length; l++) {
      boolean opens = lines[l].matches(" {4}( {4})?[A-Za-z].*\\) \\{");
      if (opens && !lines[l].contains(" class ")) opened = l;
      if (opened >= 0 && lines[l].matches(" {4}( {4})?\\}")) {
        must(l - opened <= 60, "a long method ends in line " + (l + 1));
        opened = -1;
      }
    }
  }
}
