import java.io.IOException;
import java.lang.annotation.ElementType;
import java.lang.annotation.Retention;
import java.lang.annotation.RetentionPolicy;
import java.lang.annotation.Target;
import java.lang.reflect.InvocationTargetException;
import java.lang.reflect.Method;
import java.util.ArrayList;
import java.util.Arrays;
import java.util.Comparator;
import java.util.List;
import java.util.TreeSet;

// Runs tests of which each bears the document's own words that it holds to, and looks whether
// these words still stand in that part of the document. Tests extend it to have its words.
abstract class Bounds {
  static final int MIN = Integer.MIN_VALUE, MAX = Integer.MAX_VALUE;
  static final int UNKNOWN = -1, OUTSIDE = -2, STATE = -3, FULL = -4, NONE = -9;
  static final int NULL = 1, CAST = 2, INDEX = 3, SIZE = 4;
  static final long LOST = Long.MIN_VALUE;
  /** Three girls, a thrower of each kind and one more: so girl 3 and thrower 4 are just not there. */
  static final String FAIR = "q1,51,30,92;r4;l4;s4;r9";

  private static String test = "";
  private static int asked = 0;
  private static int wrong = 0;

  /** The part of the document ("Promise 5", "Terms", "Terms 1") and its words. */
  @Retention(RetentionPolicy.RUNTIME)
  @Target(ElementType.METHOD)
  @interface Says {
    String of();

    String[] words();
  }

  interface Maker {
    QuoitFeast make();
  }

  interface Call {
    long on(QuoitFeast x);
  }

  // ---- the runner

  static void run(Class<?> tests, String... parts) throws IOException, IllegalAccessException {
    Document document = Document.read();
    List<Method> all = new ArrayList<>();
    for (Method m : tests.getDeclaredMethods()) if (m.isAnnotationPresent(Says.class)) all.add(m);
    all.sort(Comparator.comparing(Method::getName));
    TreeSet<String> untested = new TreeSet<>(Arrays.asList(parts));
    for (Method m : all) {
      Says says = m.getAnnotation(Says.class);
      test = says.of() + ", " + m.getName();
      untested.remove(says.of());
      for (String words : says.words()) {
        if (!document.says(says.of(), words)) fail("the document does not say: " + words);
      }
      runOne(m);
    }
    if (!untested.isEmpty()) {
      wrong++;
      System.out.println("no test at all: " + untested);
    }
    System.out.println(all.size() + " tests, " + asked + " answers asked for, " + wrong + " not as due");
    if (wrong != 0) System.exit(1);
  }

  private static void runOne(Method m) throws IllegalAccessException {
    int before = asked;
    try {
      m.setAccessible(true);
      m.invoke(null);
    } catch (InvocationTargetException e) {
      fail("threw " + e.getCause());
    }
    if (asked == before) fail("asked nothing");
  }

  private static void fail(String why) {
    wrong++;
    System.out.println(test + ": " + why);
  }

  // ---- what is asked

  static void due(String call, long got, long want) {
    asked++;
    if (got != want) fail(call + " answered " + got + ", due is " + want);
  }

  /** A call that comes to a fault: it answers -10 less it, and fault() tells it. */
  static void faulty(String call, QuoitFeast x, Call asks, int fault) {
    due(call, asks.on(x), -10 - fault);
    due("fault() after " + call, x.fault(), fault);
  }

  /** A call that answers a long and comes to a fault (0: is refused). */
  static void lost(String call, QuoitFeast x, Call asks, int fault) {
    due(call, asks.on(x), LOST);
    due("fault() after " + call, x.fault(), fault);
  }

  /** A call that is answered so and leaves all as it was, but for fault(). */
  static void leaves(String call, Maker maker, Call asks, long want) {
    QuoitFeast x = maker.make();
    due(call, asks.on(x), want);
    asked++;
    String now = whole(x);
    String due = whole(maker.make());
    if (!now.equals(due)) fail(call + " left\n  " + now + "\nin place of\n  " + due);
  }

  /** All that can be seen of an object; it is used up by this: rings are lifted, readings taken back. */
  static String whole(QuoitFeast x) {
    StringBuilder s = new StringBuilder("trace " + x.trace() + " many");
    for (int what = 0; what <= 4; what++) s.append(' ').append(x.many(what));
    for (int k = 0; k < 4; k++) s.append(" sheet").append(rowOf(x, k));
    for (int t = 0; t < x.many(1); t++) {
      s.append(" thrower");
      for (int what = 0; what <= 4; what++) s.append(' ').append(x.ofThrower(t, what));
    }
    wholeOfReadings(x, s);
    wholeOfRings(x, s);
    return s.toString();
  }

  private static void wholeOfReadings(QuoitFeast x, StringBuilder s) {
    for (int left = x.many(4); left >= 0; left--) {
      s.append(" by ").append(left).append(" readings");
      for (int g = 0; g < x.many(0); g++) s.append(' ').append(x.leans(g));
      for (int t = 0; t < x.many(1); t++) s.append(' ').append(x.arms(t)).append(' ').append(x.kinds(t));
      x.back(1);
    }
  }

  private static void wholeOfRings(QuoitFeast x, StringBuilder s) {
    for (int g = 0; g < x.many(0); g++) {
      s.append(" girl ").append(x.ofGirl(g, 0)).append(' ').append(x.ofGirl(g, 1));
      for (int left = x.ofGirl(g, 2); left > 0; left--) {
        for (int what = 2; what <= 5; what++) s.append(' ').append(x.ofGirl(g, what));
        s.append(" by ").append(x.lift(g));
      }
    }
  }

  private static String rowOf(QuoitFeast x, int k) {
    for (int lane = 0; lane <= 2; lane++) {
      long first = x.cell(k, 0, lane);
      int fault = first == LOST ? x.fault() : 0;
      if (fault == NULL) return " nothing";
      if (fault != CAST) return " of lane " + lane + cellsOf(x, k, lane);
    }
    return " of no lane";
  }

  private static String cellsOf(QuoitFeast x, int k, int lane) {
    StringBuilder s = new StringBuilder(":");
    for (int i = 0; i <= 60; i++) {
      long v = x.cell(k, i, lane);
      if (v == LOST) return s.toString();
      s.append(' ').append(v);
    }
    return s.append(" and on").toString();
  }

  // ---- what is asked of

  static void row(QuoitFeast x, int k, int lane, int... cells) {
    x.sheet(k, lane, cells.length);
    for (int i = 0; i < cells.length; i++) x.put(k, i, cells[i]);
  }

  static int[] codes(String text) {
    int[] codes = new int[text.length()];
    for (int i = 0; i < codes.length; i++) codes[i] = text.charAt(i);
    return codes;
  }

  /** Puts codes on sheet 3 as ints and asks for a dale by them. */
  static int read(QuoitFeast x, int... codes) {
    row(x, 3, 2, codes);
    return x.dale(3, 2, 0, codes.length);
  }

  static int read(QuoitFeast x, String text) {
    return read(x, codes(text));
  }

  static QuoitFeast dale(String text) {
    QuoitFeast x = new QuoitFeast();
    if (read(x, text) < 0) fail("no dale by " + text);
    x.lose(3);
    return x;
  }

  /** Tells a feast of these pairs on sheet 2 as ints. */
  static int feast(QuoitFeast x, int what, int... pairs) {
    row(x, 2, 2, pairs);
    return x.feast(2, 2, 0, pairs.length / 2, what);
  }

  /** So many pairs, all the same. */
  static int[] pairs(int n, int first, int second) {
    int[] cells = new int[2 * n];
    for (int p = 0; p < n; p++) {
      cells[2 * p] = first;
      cells[2 * p + 1] = second;
    }
    return cells;
  }

  static void hurl(QuoitFeast x, int times, int t, int g) {
    for (int r = 0; r < times; r++) x.hurl(t, g);
  }

  /** A new object whose sheets are those of fair(), without a dale; fault() is 3. */
  static QuoitFeast sheetsAlone() {
    QuoitFeast x = new QuoitFeast();
    row(x, 0, 0, codes(FAIR));
    row(x, 1, 1, 7, -8, 9);
    row(x, 2, 2, 0, 2, 3, 10, 1, 11);
    x.put(0, -1, 0);
    return x;
  }

  /**
   * Something of everything: eight rings with girl 0, two with girl 1, none with girl 2; three
   * readings; sheets of each lane and one that has nothing; a trace; fault() is 2.
   */
  static QuoitFeast fair() {
    QuoitFeast x = sheetsAlone();
    x.dale(0, 0, 0, FAIR.length());
    int[] throwers = {3, 0, 1, 3, 3, 3, 3, 2};
    for (int t : throwers) x.hurl(t, 0);
    x.hurl(0, 1);
    x.hurl(1, 1);
    x.reading(0, 0, 0);
    x.reading(1, 1, 3);
    x.reading(3, 2, 0);
    x.tell(2);
    x.as(0, 1);
    return x;
  }
}
