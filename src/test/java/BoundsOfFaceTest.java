import java.lang.reflect.Constructor;
import java.lang.reflect.Field;
import java.lang.reflect.Method;
import java.lang.reflect.Modifier;
import java.nio.file.Files;
import java.nio.file.Path;
import java.util.List;
import java.util.Map;
import java.util.Set;
import java.util.TreeMap;
import java.util.TreeSet;

// The public face, read out of the document itself, and what the interface says ahead of its calls.
public final class BoundsOfFaceTest extends Bounds {
  private static final Path SOURCE = Path.of("src/main/java/QuoitFeast.java");

  public static void main(String[] args) throws Exception {
    run(BoundsOfFaceTest.class, "The public face", "Headings");
  }

  private static void same(String what, Object got, Object want) {
    due(what + " " + got + ", told " + want, got.equals(want) ? 1 : 0, 1);
  }

  @Says(of = "The public face", words = "public final class QuoitFeast {")
  private static void theClassIsPublicAndFinalAndNoOther() {
    int modifiers = QuoitFeast.class.getModifiers();
    due("public", Modifier.isPublic(modifiers) ? 1 : 0, 1);
    due("final", Modifier.isFinal(modifiers) ? 1 : 0, 1);
    same("above it", QuoitFeast.class.getSuperclass(), Object.class);
    due("what it implements", QuoitFeast.class.getInterfaces().length, 0);
  }

  @Says(of = "The public face", words = {
    "public static final int UNKNOWN = -1, OUTSIDE = -2, STATE = -3, FULL = -4, NONE = -9;",
    "public static final long LOST = Long.MIN_VALUE;"})
  private static void theConstantsAreThoseOfTheDocument() throws Exception {
    TreeSet<String> seen = new TreeSet<>();
    for (Field f : QuoitFeast.class.getDeclaredFields()) {
      int modifiers = f.getModifiers();
      if (Modifier.isPrivate(modifiers)) continue;
      boolean constant = Modifier.isPublic(modifiers) && Modifier.isStatic(modifiers) && Modifier.isFinal(modifiers);
      due("a constant: " + f, constant ? 1 : 0, 1);
      if (constant) seen.add(f.getType() + " " + f.getName() + " " + ((Number) f.get(null)).longValue());
    }
    Set<String> told = Document.read().constants();
    due("constants that the document tells", told.size(), 6);
    same("constants", seen, new TreeSet<>(told));
  }

  @Says(of = "The public face", words = "public QuoitFeast();")
  private static void thereIsOneConstructorAndItTakesNothing() {
    Constructor<?>[] makers = QuoitFeast.class.getDeclaredConstructors();
    due("constructors", makers.length, 1);
    due("public", Modifier.isPublic(makers[0].getModifiers()) ? 1 : 0, 1);
    due("parameters", makers[0].getParameterCount(), 0);
  }

  @Says(of = "The public face", words = {
    "public int dale(int sheet, int lane, int i, int n);", "public long odds(int t, int g, int which);",
    "public long cell(int k, int i, int lane);", "public int many(int what);"})
  private static void theMethodsAreThoseOfTheDocumentAndNoOthers() throws Exception {
    TreeMap<String, String> seen = new TreeMap<>(), told = new TreeMap<>();
    for (Method m : QuoitFeast.class.getDeclaredMethods()) {
      if (Modifier.isPrivate(m.getModifiers())) continue;
      boolean plain = Modifier.isPublic(m.getModifiers()) && !Modifier.isStatic(m.getModifiers());
      due("public, of an object: " + m, plain ? 1 : 0, 1);
      due("named exceptions: " + m, m.getExceptionTypes().length, 0);
      seen.put(m.getName(), typesOf(m));
    }
    Document.read().face().forEach((name, head) -> told.put(name, head.replaceAll(" \\w+(?=[,)])", "")));
    due("methods that the document tells", told.size(), 33);
    same("methods", seen, told);
  }

  private static String typesOf(Method m) {
    StringBuilder text = new StringBuilder(m.getReturnType() + " " + m.getName() + "(");
    for (int p = 0; p < m.getParameterCount(); p++) text.append(p == 0 ? "" : ", ").append(m.getParameterTypes()[p]);
    return text.append(")").toString();
  }

  @Says(of = "The public face", words = "public int copy(int k, int i, int other, int j, int n);")
  private static void parametersBearTheirNames() throws Exception {
    String source = Files.readString(SOURCE);
    for (String head : Document.read().face().values()) {
      due("public " + head, source.contains("    public " + head + " {\n") ? 1 : 0, 1);
    }
  }

  @Says(of = "Headings", words = {
    "the interface says: ---- 1 the dale.", "the interface says: ---- 2 rings.",
    "the interface says: ---- 3 who has whom.", "the interface says: ---- 4 how near they came.",
    "the interface says: ---- 5 sheets, parts."})
  private static void callsStandBehindWhatTheInterfaceSaysAheadOfThem() throws Exception {
    String source = Files.readString(SOURCE);
    Map<String, List<String>> headings = Document.read().headings();
    due("headings that the document tells", headings.size(), 5);
    int at = 0, calls = 0;
    for (String heading : headings.keySet()) {
      int begins = source.indexOf("    // " + heading + "\n", at);
      due("behind the one before: " + heading, begins > at ? 1 : 0, 1);
      at = begins;
      for (String call : headings.get(heading)) {
        int stands = source.indexOf(" " + call + "(", Math.max(at, 0));
        due("behind what stands ahead: " + call, stands > at && isPublicThere(source, stands) ? 1 : 0, 1);
        at = stands;
        calls++;
      }
    }
    due("calls with a heading", calls, 33);
  }

  private static boolean isPublicThere(String source, int at) {
    String line = source.substring(source.lastIndexOf('\n', at) + 1, at);
    return line.equals("    public int") || line.equals("    public long");
  }

  @Says(of = "Not promised", words = "How the state is held inside the object is free")
  private static void nothingOfTheStateIsSeenAndNoTwoObjectsShareIt() {
    for (Field f : QuoitFeast.class.getDeclaredFields()) {
      boolean constant = Modifier.isStatic(f.getModifiers()) && Modifier.isFinal(f.getModifiers());
      due("hidden: " + f, constant || Modifier.isPrivate(f.getModifiers()) ? 1 : 0, 1);
    }
    QuoitFeast x = fair();
    String before = whole(fair());
    QuoitFeast y = new QuoitFeast();
    read(y, "q3,99;s9");
    y.hurl(0, 0);
    y.reading(0, 0, 5);
    y.tell(0);
    y.freeze(0);
    same("another object leaves this one", whole(x), before);
  }
}
