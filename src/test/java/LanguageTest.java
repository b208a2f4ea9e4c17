import java.io.IOException;
import java.nio.file.Files;
import java.nio.file.Path;
import java.util.Set;
import java.util.TreeSet;

// The class keeps to LANGUAGE.md, rule by rule; and each look at a rule finds a class that breaks it.
public final class LanguageTest {
  /** A rule's number, and members of a class of which one breaks it. */
  private static final String[][] BREAKING = {
    {"1", "public int other() { return 0; }"},
    {"1", "int seen() { return 0; }"},
    {"1", "protected int seen() { return 0; }"},
    {"1", "public int seen;"},
    {"1", "private int lean(int v) { return v; }"},
    {"1", "public static class Inside { }"},
    {"1", "static final class Inside { int lean(int v) { return v; } }"},
    {"2", "private class Inside { }"},
    {"2", "private interface Has { int it(); } private int some() { Has has = () -> 1; return has.it(); }"},
    {"2", "private interface Has { int it(); } private int some() { Has has = this::trace; return has.it(); }"
        + " public int trace() { return 0; }"},
    {"2", "private interface Has { int it(); } private int some() { return new Has() { public int it() { return 1; } }.it(); }"},
    {"2", "private int some() { class Near { } return 0; }"},
    {"3", "private String[] names = null;"},
    {"3", "private int[][][] deep = null;"},
    {"3", "private Object any = null;"},
    {"3", "private java.util.Map<Integer, Integer> map = null;"},
    {"4", "private int some() { return Math.addExact(1, 2); }"},
    {"4", "private long some() { return System.nanoTime(); }"},
    {"4", "private int some(String a) { return Integer.parseInt(a); }"},
    {"4", "private boolean some(String a) { return a.startsWith(a); }"},
    {"4", "private int some() { return hashCode(); }"},
    {"4", "private String name = \"\\u00e9\";"},
    {"5", "private static int kept;"},
    {"5", "private static final int[] KEPT = new int[4];"},
    {"5", "private static final StringBuilder KEPT = new StringBuilder();"},
    {"5", "private static final int KEPT; static { KEPT = 1; }"},
    {"6", "private void some() { throw new IllegalStateException(); }"},
    {"6", "private int some(int[] a) { try { return 1; } finally { } }"},
    {"6", "private void some(int a) { assert a > 0; }"},
    {"6", "private int some() { synchronized (this) { return 1; } }"},
    {"6", "private synchronized int some() { return 1; }"},
    {"6", "private boolean some(String a, String b) { return a == b; }"},
    {"6", "private boolean some(Integer a, Integer b) { return a != b; }"},
    {"6", "private static class A { } private static final class B extends A { } private B some(A a) { return (B) a; }"},
    {"6", "private static final class A { public String toString() { return null; } }"},
    {"7", "private int some(int[] a, int i) { return a[i]; }"},
    {"7", "private int some(int a, int b) { return a / b; }"},
    {"7", "private int some(int a, int b) { return a % (b - 1); }"},
    {"7", "private int some(int a, int b) { a /= b; return a; }"},
    {"7", "private int some(int a) { return a / 0; }"},
    {"7", "private int[] some(int n) { return new int[n]; }"},
    {"8", "private static int some(int n) { return n <= 0 ? 0 : some(n - 1); }"},
    {"8", "private int one(int n) { return n <= 0 ? 0 : two(n); } private int two(int n) { return one(n - 1); }"},
    {"8", "private static class A { int to(A a) { return 0; } }"
        + " private static final class B extends A { int to(A a) { return a == null ? 0 : a.to(a); } }"},
    {"9", "private int some(int n) { while (n > 0) n--; return n; }"},
    {"9", "private int some(int n) { do n--; while (n > 0); return n; }"},
    {"9", "private int some(int n) { for (;;) n++; }"},
    {"9", "private int some(int n) { for (int i = 0; i < n; i++) { i--; } return n; }"},
    {"9", "private int some(int n) { for (int i = 0; i < n; i--) { } return n; }"},
    {"10", "private String some(String a) { return a + 1; }"},
    {"10", "private String some(String a) { a += 1; return a; }"},
    {"11", "private int some(int a, int b, int c, int d, int e, int f, int g, int h) { return a; }"},
    {"11", "private int some() {" + "\n".repeat(60) + "return 1; }"},
    {"11", "private int a() { return b(); } private int b() { return c(); } private int c() { return d(); }"
        + " private int d() { return e(); } private int e() { return f(); } private int f() { return g(); }"
        + " private int g() { return h(); } private int h() { return i(); } private int i() { return 1; }"},
    {"11", fields(21)},
    {"11", inside(12)},
    {"12", "private int[] some() { return new int[4]; }"},
    {"12", "private static final class A { } private void some(int n) { for (int i = 0; i < n; i++) { A a = new A(); } }"},
    {"12", "private static class A { A() { step(); } void step() { } }"},
    {"12", "private static class A { A() { note(this); } private static void note(A a) { } }"},
    {"13", "private double some() { return Math.random(); }"},
    {"13", "private long some() { return System.currentTimeMillis(); }"},
    {"13", "private String some() { return System.getProperty(null); }"},
  };

  private static int wrong = 0;

  private static void must(boolean holds, String what) {
    if (holds) return;
    wrong++;
    System.out.println(what);
  }

  public static void main(String[] args) throws IOException {
    Set<String> face = Document.read().face().keySet();
    String source = Files.readString(Path.of("src/main/java/QuoitFeast.java"));
    for (String broken : Language.broken(source, face)) must(false, broken);
    for (int i = 0; i < source.length(); i++) must(source.charAt(i) < 128, "a sign above 127 at " + i);
    must(Language.broken(inClass(""), face).isEmpty(), "nothing is broken where nothing is");
    for (String[] breaking : BREAKING) mustBeFound(breaking[0], breaking[1], face);
    mustBeFoundIn("1", "package some; " + inClass(""), face);
    mustBeFoundIn("1", inClass("") + " final class Other { }", face);
    mustBeFoundIn("1", "class QuoitFeast { }", face);
    System.out.println(wrong == 0 ? "the language is kept" : wrong + " looks at the language fail");
    if (wrong != 0) System.exit(1);
  }

  private static String inClass(String members) { return "public final class QuoitFeast { " + members + " }"; }

  private static void mustBeFound(String rule, String members, Set<String> face) throws IOException {
    mustBeFoundIn(rule, inClass(members), face);
  }

  private static void mustBeFoundIn(String rule, String source, Set<String> face) throws IOException {
    // rule 13 is kept by rule 4: what the library gives of clocks and the like is none of what is listed
    String found = "rule " + (rule.equals("13") ? "4" : rule) + ":";
    TreeSet<String> broken = Language.broken(source, face);
    boolean hit = false;
    for (String one : broken) hit |= one.startsWith(found);
    must(hit, "rule " + rule + " is broken and not found: " + source + " " + broken);
  }

  private static String fields(int many) {
    StringBuilder s = new StringBuilder();
    for (int f = 0; f < many; f++) s.append("private int field").append(f).append("; ");
    return s.toString();
  }

  private static String inside(int many) {
    StringBuilder s = new StringBuilder();
    for (int c = 0; c < many; c++) s.append("private static final class Inside").append(c).append(" { } ");
    return s.toString();
  }
}
