import java.lang.reflect.InvocationTargetException;
import java.lang.reflect.Method;
import java.lang.reflect.Modifier;
import java.util.Arrays;
import java.util.LinkedHashMap;
import java.util.Map;

// Every call with edge and far numbers in several states: none throws, each answers something that
// the document has, and what is refused or comes to a fault changes nothing but fault().
public final class AnyArgumentsTest extends Bounds {
  private static final int[] MANY = {
    MIN, MIN + 1, -65536, -101, -100, -3, -2, -1, 0, 1, 2, 3, 4, 5, 7, 8, 9, 10, 11, 13, 14, 20, 21, 30, 31, 59, 60, 61,
    255, 1 << 30, MAX - 1, MAX
  };
  private static final int[] FEW = {MIN, -1, 0, 1, 2, 3, 4, 20, 60, 61, MAX};
  private static final int[] FEWEST = {MIN, -1, 0, 2, 3, 20, 60, MAX};

  private static int wrong = 0;
  private static long calls = 0;

  public static void main(String[] args) throws IllegalAccessException {
    Map<String, Maker> states = new LinkedHashMap<>();
    states.put("new", QuoitFeast::new);
    states.put("sheets alone", Bounds::sheetsAlone);
    states.put("the fair", Bounds::fair);
    states.put("packed", AnyArgumentsTest::packed);
    for (String state : states.keySet()) {
      for (Method m : QuoitFeast.class.getDeclaredMethods()) {
        if (Modifier.isPublic(m.getModifiers())) callWithAll(state, states.get(state), m);
      }
    }
    System.out.println(calls + " calls, " + wrong + " not as due");
    if (wrong != 0) System.exit(1);
  }

  /** As much of everything as there may be. */
  private static QuoitFeast packed() {
    String text = "q3,10,99,55,30;r1;l9;s9;r5;s1";
    QuoitFeast x = new QuoitFeast();
    x.sheet(0, 0, 60);
    for (int i = 0; i < text.length(); i++) x.put(0, i, text.charAt(i));
    x.dale(0, 0, 0, text.length());
    for (int r = 0; r < 32; r++) x.hurl(r % 5, r % 4);
    for (int r = 0; r < 8; r++) x.reading(r % 5, r % 4, x.measure(r % 5, r % 4));
    x.sheet(1, 1, 0);
    x.sheet(2, 2, 60);
    for (int i = 0; i < 60; i += 2) x.put(2, i + 1, 10);
    x.sheet(3, 1, 60);
    x.put(3, 0, MIN);
    x.put(3, 59, MAX);
    return x;
  }

  private static void callWithAll(String state, Maker maker, Method m) throws IllegalAccessException {
    int parameters = m.getParameterCount();
    int[] numbers = parameters <= 2 ? MANY : parameters <= 4 ? FEW : FEWEST;
    Object[] arguments = new Object[parameters];
    int[] at = new int[parameters];
    QuoitFeast refusing = maker.make();
    boolean more = true;
    while (more) {
      for (int p = 0; p < parameters; p++) arguments[p] = numbers[at[p]];
      if (isRefused(state, maker.make(), m, arguments)) answerOf(state, refusing, m, arguments);
      more = next(at, numbers.length);
    }
    String now = whole(refusing), due = whole(maker.make());
    if (!now.equals(due)) fail(state + ": refused calls of " + m.getName() + " left\n  " + now + "\nin place of\n  " + due);
  }

  /** The next row of places, as a counter with so many digits goes on; false behind the last. */
  private static boolean next(int[] at, int digits) {
    for (int p = at.length - 1; p >= 0; p--) {
      at[p]++;
      if (at[p] < digits) return true;
      at[p] = 0;
    }
    return false;
  }

  private static boolean isRefused(String state, QuoitFeast x, Method m, Object[] arguments) throws IllegalAccessException {
    Long answer = answerOf(state, x, m, arguments);
    if (answer == null || m.getName().equals("trace")) return false;
    int fault = x.fault();
    String call = state + ": " + m.getName() + Arrays.toString(arguments) + " = " + answer;
    if (m.getReturnType() == long.class) return answer == LOST;
    boolean refused = answer <= UNKNOWN && answer >= FULL, faulty = answer <= -10 - NULL && answer >= -10 - SIZE;
    boolean told = answer <= -100 && answer >= -160 && (m.getName().equals("dale") || m.getName().equals("feast"));
    if (answer < 0 && !refused && !faulty && !told && answer != NONE) fail(call + " is no answer that the document has");
    if (faulty && fault != -10 - answer) fail(call + ", and fault() tells " + fault);
    return refused || faulty;
  }

  private static Long answerOf(String state, QuoitFeast x, Method m, Object[] arguments) throws IllegalAccessException {
    calls++;
    try {
      return ((Number) m.invoke(x, arguments)).longValue();
    } catch (InvocationTargetException e) {
      fail(state + ": " + m.getName() + Arrays.toString(arguments) + " threw " + e.getCause());
      return null;
    }
  }

  private static void fail(String why) {
    wrong++;
    if (wrong < 20) System.out.println(why);
  }
}
