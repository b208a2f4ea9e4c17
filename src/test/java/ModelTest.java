import java.util.ArrayList;
import java.util.Arrays;
import java.util.List;
import java.util.Random;
import java.util.regex.Matcher;
import java.util.regex.Pattern;

// Runs of chosen calls, answered by the class and by a second, plainer telling of the document,
// which tries everything where the class reckons: every matching, every wedding, every prefix.
public final class ModelTest {
  private static final int RUNS = 3000, CALLS = 512, NONE = -9;
  private static final long LOST = Long.MIN_VALUE;
  private static final Pattern TEXT = Pattern.compile("q[0-3](,[1-9][0-9]){1,4}(;[rls][1-9]){1,5}");

  record Ring(int by, int near) {}

  record Reading(int t, int g, int v) {}

  static final class Girl {
    int yards, lean;
    final List<Ring> rings = new ArrayList<>();

    Girl(int yards, int lean) { this.yards = yards; this.lean = lean; }

    Ring holding() { return holding(rings); }

    static Ring holding(List<Ring> rings) {
      for (int r = rings.size() - 1; r >= 0; r--) if (rings.get(r).near == 0) return rings.get(r);
      Ring best = null;
      for (Ring r : rings) if (best == null || r.near < best.near) best = r;
      return best;
    }

    Girl twin() {
      Girl twin = new Girl(yards, lean);
      twin.rings.addAll(rings);
      return twin;
    }
  }

  static final class Thrower {
    final char letter;
    int arm;

    Thrower(char letter, int arm) { this.letter = letter; this.arm = arm; }

    int kind() { return "rls".indexOf(letter); }

    int reach() { return reach(kind(), arm); }

    static int reach(int kind, int arm) { return kind == 0 ? arm : kind == 1 ? arm + 1 : arm * 2; }
  }

  /** The document told a second time. */
  static final class Model {
    List<Girl> girls = new ArrayList<>();
    List<Thrower> throwers = new ArrayList<>();
    List<Reading> readings = new ArrayList<>();
    int frost, trace, fault;
    final int[] lanes = {-1, -1, -1, -1};
    final int[][] rows = new int[4][];

    boolean noGirl(int g) { return g < 0 || g >= girls.size(); }

    boolean noThrower(int t) { return t < 0 || t >= throwers.size(); }

    static boolean in(int v, int a, int b) { return a <= v && v <= b; }

    static int near(int reach, int yards, int lean, int frost) {
      int off = Math.abs(reach - yards);
      return off <= lean ? 0 : off + frost;
    }

    int near(int t, int g) {
      return near(throwers.get(t).reach(), girls.get(g).yards, girls.get(g).lean, frost);
    }

    int faulty(int f) { fault = f; return -10 - f; }

    int asRow(int k, int lane) { return rows[k] == null ? 1 : lanes[k] != lane ? 2 : 0; }

    int dale(int k, int lane, int i, int n) {
      fault = 0;
      if (!in(k, 0, 3)) return -1;
      if (!in(lane, 0, 2)) return -2;
      if (asRow(k, lane) != 0) return faulty(asRow(k, lane));
      if (n < 0) return faulty(4);
      if (i < 0 || (long) i + n > rows[k].length) return faulty(3);
      StringBuilder s = new StringBuilder();
      for (int p = 0; p < n; p++) s.append(in(rows[k][i + p], 1, 126) ? (char) rows[k][i + p] : '~');
      for (int p = 1; p <= n; p++) {
        Matcher m = TEXT.matcher(s.substring(0, p));
        if (!m.matches() && !m.hitEnd()) return -100 - (p - 1);
      }
      if (!TEXT.matcher(s).matches()) return -100 - n;
      girls = new ArrayList<>();
      throwers = new ArrayList<>();
      readings = new ArrayList<>();
      frost = s.charAt(1) - '0';
      for (int p = 2; p < n; p += 3) {
        int a = s.charAt(p + 1), b = s.charAt(p + 2) - '0';
        if (s.charAt(p) == ',') girls.add(new Girl(a - '0', b)); else throwers.add(new Thrower((char) a, b));
      }
      return throwers.size();
    }

    int ofGirl(int g, int what) {
      if (noGirl(g)) return -1;
      if (!in(what, 0, 5)) return -2;
      Girl her = girls.get(g);
      Ring by = her.holding();
      int ringers = 0;
      for (Ring r : her.rings) if (r.near == 0) ringers++;
      return new int[] {her.yards, her.lean, her.rings.size(), by == null ? NONE : by.by,
          by == null ? NONE : by.near, ringers}[what];
    }

    int ofThrower(int t, int what) {
      if (noThrower(t)) return -1;
      if (!in(what, 0, 4)) return -2;
      Thrower who = throwers.get(t);
      int has = 0, lie = 0;
      for (int g = 0; g < girls.size(); g++) {
        if (ofGirl(g, 3) == t) has += 1 << g;
        for (Ring r : girls.get(g).rings) if (r.by == t) lie++;
      }
      return new int[] {who.kind(), who.arm, who.reach(), has, lie}[what];
    }

    int freeze(int v) {
      if (!in(v, 0, 3)) return -2;
      if (throwers.isEmpty()) return -3;
      int was = frost;
      frost = v;
      return was;
    }

    int lean(int g, int v) {
      if (noGirl(g)) return -1;
      if (!in(v, 0, 9)) return -2;
      int was = girls.get(g).lean;
      girls.get(g).lean = v;
      return was;
    }

    int place(int g, int v) {
      if (noGirl(g)) return -1;
      if (!in(v, 1, 9)) return -2;
      int was = girls.get(g).yards;
      girls.get(g).yards = v;
      return was;
    }

    int train(int t, int v) {
      if (noThrower(t)) return -1;
      if (!in(v, 1, 9)) return -2;
      int was = throwers.get(t).arm;
      throwers.get(t).arm = v;
      return was;
    }

    int measure(int t, int g) { return noThrower(t) || noGirl(g) ? -1 : near(t, g); }

    int hurl(int t, int g) {
      if (noThrower(t) || noGirl(g)) return -1;
      if (girls.get(g).rings.size() == 8) return -4;
      girls.get(g).rings.add(new Ring(t, near(t, g)));
      return near(t, g);
    }

    int lift(int g) {
      if (noGirl(g)) return -1;
      List<Ring> rings = girls.get(g).rings;
      return rings.isEmpty() ? -3 : rings.remove(rings.size() - 1).by;
    }

    int clear(int g) {
      if (noGirl(g)) return -1;
      int lay = girls.get(g).rings.size();
      girls.get(g).rings.clear();
      return lay;
    }

    int feast(int k, int lane, int i, int n, int what) {
      fault = 0;
      if (!in(k, 0, 3)) return -1;
      if (!in(lane, 0, 2) || !in(n, 0, 20) || !in(what, 0, 4) && !in(what, 10, 13)) return -2;
      if (asRow(k, lane) != 0) return faulty(asRow(k, lane));
      if (i < 0 || (long) i + 2 * n > rows[k].length) return faulty(3);
      if (throwers.isEmpty()) return -3;
      for (int p = 0; p < n; p++) {
        int a = rows[k][i + 2 * p], b = rows[k][i + 2 * p + 1];
        if (!in(b, 0, 3) && b != 10 && b != 11) return -2;
        if (b > 3 && !in(a, 0, 3)) return -2;
        if (b <= 3 && noThrower(a)) return -1;
      }
      return toldFeast(Arrays.copyOfRange(rows[k], i, i + 2 * n), what);
    }

    int toldFeast(int[] pairs, int what) {
      Model m = new Model();
      m.frost = frost;
      m.throwers = throwers;
      for (Girl g : girls) m.girls.add(g.twin());
      int ringers = 0, on = 0;
      for (int p = 0; p < pairs.length / 2; p++) {
        int a = pairs[2 * p], b = pairs[2 * p + 1];
        if (b == 10) { m.frost = a; continue; }
        if (b == 11) {
          if (m.clear(a) < 0) return what == 1 ? p : -100 - p;
          continue;
        }
        int before = m.ofGirl(b, 5);
        int near = m.hurl(a, b);
        if (near < 0) return what == 1 ? p : -100 - p;
        if (near == 0) { ringers++; if (before > 0) on++; }
      }
      int had = 0;
      for (int g = 0; g < girls.size(); g++) if (m.ofGirl(g, 3) != NONE) had++;
      if (what >= 10) return m.noGirl(what - 10) ? NONE : m.ofGirl(what - 10, 3);
      return new int[] {had, NONE, ringers, on, m.frost}[what];
    }

    boolean hasBy(int t, int g, int reach) {
      Girl her = girls.get(g);
      if (her.rings.size() == 8) return false;
      List<Ring> then = new ArrayList<>(her.rings);
      then.add(new Ring(t, near(reach, her.yards, her.lean, frost)));
      return Girl.holding(then).by == t;
    }

    int wins(int t) {
      if (noThrower(t)) return -1;
      int set = 0;
      for (int g = 0; g < girls.size(); g++) if (hasBy(t, g, throwers.get(t).reach())) set += 1 << g;
      return set;
    }

    /** Every row of girls (9 none) in order, none with a girl twice. */
    static void everyRow(int[] row, int t, int girls, List<int[]> into) {
      if (t == row.length) { into.add(row.clone()); return; }
      for (int g = 0; g <= girls; g++) {
        row[t] = g == girls ? 9 : g;
        boolean twice = false;
        for (int u = 0; u < t; u++) twice |= row[u] == row[t] && row[t] != 9;
        if (!twice) everyRow(row, t + 1, girls, into);
      }
    }

    List<int[]> everyRow() {
      List<int[]> rows = new ArrayList<>();
      everyRow(new int[throwers.size()], 0, girls.size(), rows);
      return rows;
    }

    int match(int k) {
      if (!in(k, -2, 4)) return -2;
      if (throwers.isEmpty()) return -3;
      int[] best = null;
      int bestCount = -1, bestSum = 0;
      for (int[] row : everyRow()) {
        int count = 0, sum = 0;
        boolean can = true;
        for (int t = 0; t < row.length; t++) {
          if (row[t] == 9) continue;
          can &= (wins(t) >> row[t]) % 2 == 1;
          count++;
          sum += near(t, row[t]);
        }
        if (can && (count > bestCount || count == bestCount && sum < bestSum)) {
          best = row;
          bestCount = count;
          bestSum = sum;
        }
      }
      if (k == -2) return bestCount;
      if (k == -1) return bestSum;
      return k >= best.length || best[k] == 9 ? NONE : best[k];
    }

    boolean rather(int t, int g, int h) {
      return h == 9 || near(t, g) < near(t, h) || near(t, g) == near(t, h) && g < h;
    }

    boolean stable(int[] row) {
      for (int t = 0; t < row.length; t++) {
        for (int g = 0; g < girls.size(); g++) {
          if (g == row[t] || !rather(t, g, row[t])) continue;
          int his = -1;
          for (int u = 0; u < row.length; u++) if (row[u] == g) his = u;
          if (his < 0 || near(t, g) < near(his, g) || near(t, g) == near(his, g) && t < his) return false;
        }
      }
      return true;
    }

    int weds(int t) {
      if (noThrower(t)) return -1;
      List<int[]> all = new ArrayList<>();
      for (int[] row : everyRow()) if (stable(row)) all.add(row);
      for (int[] row : all) {
        boolean best = true;
        for (int[] other : all) {
          for (int u = 0; u < row.length; u++) best &= other[u] == row[u] || other[u] == 9 || !rather(u, other[u], row[u]);
        }
        if (best) return row[t] == 9 ? NONE : row[t];
      }
      return 12345;
    }

    int even(int t, int u, int g) {
      if (noThrower(t) || noThrower(u) || t == u || noGirl(g)) return -1;
      Girl her = girls.get(g);
      for (int d = 0; d < 9; d++) {
        for (int y : new int[] {her.yards - d, her.yards + d}) {
          if (in(y, 1, 9) && near(throwers.get(t).reach(), y, her.lean, frost)
              == near(throwers.get(u).reach(), y, her.lean, frost)) return y;
        }
      }
      return NONE;
    }

    int reading(int t, int g, int v) {
      if (noThrower(t) || noGirl(g)) return -1;
      if (!in(v, 0, 20)) return -2;
      if (readings.size() == 8) return -4;
      readings.add(new Reading(t, g, v));
      return readings.size() - 1;
    }

    int back(int n) {
      if (!in(n, 0, readings.size())) return -2;
      for (int i = 0; i < n; i++) readings.remove(readings.size() - 1);
      return readings.size();
    }

    boolean allSo() {
      for (Reading r : readings) if (near(r.t, r.g) != r.v) return false;
      return true;
    }

    int leans(int g) {
      if (noGirl(g)) return -1;
      int set = 0, was = girls.get(g).lean;
      for (int v = 0; v <= 9; v++) {
        girls.get(g).lean = v;
        if (allSo()) set += 1 << v;
      }
      girls.get(g).lean = was;
      return set;
    }

    int arms(int t) {
      if (noThrower(t)) return -1;
      int set = 0, was = throwers.get(t).arm;
      for (int v = 1; v <= 9; v++) {
        throwers.get(t).arm = v;
        if (allSo()) set += 1 << v;
      }
      throwers.get(t).arm = was;
      return set;
    }

    int kinds(int t) {
      if (noThrower(t)) return -1;
      int set = 0;
      Thrower was = throwers.get(t);
      for (int k = 0; k < 3; k++) {
        throwers.set(t, new Thrower("rls".charAt(k), was.arm));
        if (allSo()) set += 1 << k;
      }
      throwers.set(t, was);
      return set;
    }

    long odds(int t, int g, int which) {
      if (noThrower(t) || noGirl(g) || !in(which, 0, 1)) return LOST;
      int had = 0;
      for (int d = -1; d <= 1; d++) if (hasBy(t, g, throwers.get(t).reach() + d)) had++;
      return new int[][] {{0, 1}, {1, 3}, {2, 3}, {1, 1}}[had][which];
    }

    int sheet(int k, int lane, int n) {
      fault = 0;
      if (!in(k, 0, 3)) return -1;
      if (!in(lane, 0, 2) || n > 60) return -2;
      if (n < 0) return faulty(4);
      lanes[k] = lane;
      rows[k] = new int[n];
      return 1;
    }

    int lose(int k) {
      if (!in(k, 0, 3)) return -1;
      int had = rows[k] == null ? 0 : 1;
      rows[k] = null;
      return had;
    }

    int put(int k, int i, int v) {
      fault = 0;
      if (!in(k, 0, 3)) return -1;
      if (rows[k] == null) return faulty(1);
      if (i < 0 || i >= rows[k].length) return faulty(3);
      rows[k][i] = lanes[k] == 0 ? (byte) v : lanes[k] == 1 ? (short) v : v;
      return 1;
    }

    long cell(int k, int i, int lane) {
      fault = 0;
      if (!in(k, 0, 3) || !in(lane, 0, 2)) return LOST;
      if (asRow(k, lane) != 0) { fault = asRow(k, lane); return LOST; }
      if (i < 0 || i >= rows[k].length) { fault = 3; return LOST; }
      return rows[k][i];
    }

    int copy(int k, int i, int other, int j, int n) {
      fault = 0;
      if (!in(k, 0, 3) || !in(other, 0, 3)) return -1;
      if (rows[k] == null || rows[other] == null) return faulty(1);
      if (lanes[k] != lanes[other]) return faulty(2);
      if (i < 0 || j < 0 || n < 0 || (long) i + n > rows[k].length || (long) j + n > rows[other].length) return faulty(3);
      System.arraycopy(rows[k], i, rows[other], j, n);
      return n;
    }

    int tell(int t) {
      if (noThrower(t)) return -1;
      int kind = throwers.get(t).kind(), arm = throwers.get(t).arm;
      for (char body : new String[] {"1", "21", "3211"}[kind].toCharArray()) trace = trace * 31 + body - '0';
      return new int[] {arm, arm + 100, arm + 100 + arm}[kind];
    }

    int cheer(int t) {
      if (noThrower(t)) return -1;
      boolean own = throwers.get(t).kind() == 2;
      trace = trace * 31 + (own ? 5 : 4);
      return own ? 50 : t;
    }

    int as(int t, int kind) {
      fault = 0;
      if (noThrower(t)) return -1;
      if (!in(kind, 0, 2)) return -2;
      return throwers.get(t).kind() >= kind ? 1 : faulty(2);
    }

    int many(int what) {
      if (!in(what, 0, 4)) return -2;
      int lie = 0;
      for (Girl g : girls) lie += g.rings.size();
      return new int[] {girls.size(), throwers.size(), frost, lie, readings.size()}[what];
    }
  }

  /** One run: every call goes to both. */
  static final class Run {
    final Random dice;
    final QuoitFeast x = new QuoitFeast();
    final Model m = new Model();
    final StringBuilder story = new StringBuilder();
    int calls = 0;
    boolean failed = false;

    Run(long seed) { dice = new Random(seed); }

    void same(String call, long got, long want) {
      calls++;
      story.append(call).append(" = ").append(got).append('\n');
      if (got != want && !failed) {
        failed = true;
        System.out.println(story + "... due is " + want);
      }
    }

    int wild(int least, int most) {
      int roll = dice.nextInt(40);
      if (roll == 0) return least - 1;
      if (roll == 1) return most + 1;
      if (roll == 2) return new int[] {Integer.MIN_VALUE, Integer.MAX_VALUE, -1, 61, 1 << 30}[dice.nextInt(5)];
      return least + dice.nextInt(most - least + 1);
    }

    int girl() { return wild(0, Math.max(0, m.girls.size() - 1)); }

    int thrower() { return wild(0, Math.max(0, m.throwers.size() - 1)); }

    /** Sheets 0 to 2 mostly have the lane of their number; sheet 3 is often lost. */
    int laneOf(int k) { return k >= 0 && k < 3 && dice.nextInt(20) != 0 ? k : wild(0, 2); }

    void sheet(int k, int lane, int n) { same("sheet(" + k + "," + lane + "," + n + ")", x.sheet(k, lane, n), m.sheet(k, lane, n)); }

    void put(int k, int i, int v) { same("put(" + k + "," + i + "," + v + ")", x.put(k, i, v), m.put(k, i, v)); }

    void dale(int k, int lane, int i, int n) {
      same("dale(" + k + "," + lane + "," + i + "," + n + ")", x.dale(k, lane, i, n), m.dale(k, lane, i, n));
    }

    void text() {
      StringBuilder s = new StringBuilder("q" + dice.nextInt(4));
      int girls = 1 + dice.nextInt(4), throwers = 1 + dice.nextInt(5);
      int leaning = 1 + dice.nextInt(5);
      for (int g = 0; g < girls; g++) s.append(',').append(1 + dice.nextInt(9)).append(dice.nextInt(leaning));
      for (int t = 0; t < throwers; t++) s.append(';').append("rls".charAt(dice.nextInt(3))).append(1 + dice.nextInt(9));
      if (dice.nextInt(3) == 0) spoil(s);
      int k = dice.nextInt(3), ahead = dice.nextInt(3);
      sheet(k, k, ahead + s.length() + dice.nextInt(2));
      for (int p = 0; p < s.length(); p++) put(k, ahead + p, s.charAt(p));
      dale(k, laneOf(k), dice.nextInt(30) == 0 ? wild(0, 60) : ahead, dice.nextInt(10) == 0 ? wild(0, 40) : s.length());
    }

    void spoil(StringBuilder s) {
      int p = dice.nextInt(s.length());
      switch (dice.nextInt(4)) {
        case 0: s.setCharAt(p, "q0123456789,;rlsx/:".charAt(dice.nextInt(19))); break;
        case 1: s.setLength(p); break;
        case 2: s.insert(p, "q0123456789,;rlsx/:".charAt(dice.nextInt(19))); break;
        default: s.append(new String[] {",11", ";r1", ";", ",", "x"}[dice.nextInt(5)]);
      }
    }

    void feast() {
      int k = dice.nextInt(3), n = dice.nextInt(dice.nextInt(3) == 0 ? 21 : 8);
      sheet(k, k, 2 * n + dice.nextInt(2));
      int favourite = dice.nextInt(4);
      for (int p = 0; p < n; p++) {
        int second = dice.nextInt(12) == 0 ? 10 + dice.nextInt(2) : dice.nextInt(2) == 0 ? favourite : dice.nextInt(Math.max(1, m.girls.size()));
        int first = second >= 10 ? dice.nextInt(4) : dice.nextInt(Math.max(1, m.throwers.size()));
        if (dice.nextInt(80) == 0) first = wild(0, 5);
        if (dice.nextInt(80) == 0) second = wild(0, 12);
        put(k, 2 * p, first);
        put(k, 2 * p + 1, second);
      }
      int lane = laneOf(k);
      for (int what = -1; what <= 14; what++) {
        if (dice.nextInt(4) == 0 && what != 1) continue;
        same("feast(" + k + "," + lane + ",0," + n + "," + what + ")", x.feast(k, lane, 0, n, what), m.feast(k, lane, 0, n, what));
      }
      int i = wild(0, 10), many = wild(0, 20), what = wild(0, 13);
      same("feast(" + k + "," + lane + "," + i + "," + many + "," + what + ")", x.feast(k, lane, i, many, what), m.feast(k, lane, i, many, what));
    }

    void dales() {
      int g = girl(), t = thrower(), v = wild(0, 9), what = wild(0, 5);
      switch (dice.nextInt(6)) {
        case 0: same("ofGirl(" + g + "," + what + ")", x.ofGirl(g, what), m.ofGirl(g, what)); break;
        case 1: same("ofThrower(" + t + "," + what + ")", x.ofThrower(t, what), m.ofThrower(t, what)); break;
        case 2: same("freeze(" + v % 5 + ")", x.freeze(v % 5), m.freeze(v % 5)); break;
        case 3: same("lean(" + g + "," + v + ")", x.lean(g, v), m.lean(g, v)); break;
        case 4: same("place(" + g + "," + v + ")", x.place(g, v), m.place(g, v)); break;
        default: same("train(" + t + "," + v + ")", x.train(t, v), m.train(t, v));
      }
    }

    void rings() {
      int g = girl(), t = thrower();
      switch (dice.nextInt(12)) {
        case 0: same("lift(" + g + ")", x.lift(g), m.lift(g)); break;
        case 1: if (dice.nextInt(4) == 0) same("clear(" + g + ")", x.clear(g), m.clear(g)); break;
        case 2: same("measure(" + t + "," + g + ")", x.measure(t, g), m.measure(t, g)); break;
        default: same("hurl(" + t + "," + g + ")", x.hurl(t, g), m.hurl(t, g));
      }
      for (int what = 2; what <= 5; what++) same("ofGirl(" + g + "," + what + ")", x.ofGirl(g, what), m.ofGirl(g, what));
      for (int what = 3; what <= 4; what++) same("ofThrower(" + t + "," + what + ")", x.ofThrower(t, what), m.ofThrower(t, what));
    }

    void pairs() {
      int g = girl(), t = thrower(), u = thrower();
      same("wins(" + t + ")", x.wins(t), m.wins(t));
      int k = wild(-2, 4);
      same("match(" + k + ")", x.match(k), m.match(k));
      same("weds(" + t + ")", x.weds(t), m.weds(t));
      same("even(" + t + "," + u + "," + g + ")", x.even(t, u, g), m.even(t, u, g));
      int which = wild(0, 1);
      same("odds(" + t + "," + g + "," + which + ")", x.odds(t, g, which), m.odds(t, g, which));
    }

    void readings() {
      int g = girl(), t = thrower();
      int v = m.measure(t, g) >= 0 && dice.nextInt(4) != 0 ? m.measure(t, g) : wild(0, 20);
      if (dice.nextInt(3) == 0) {
        int n = dice.nextInt(4);
        same("back(" + n + ")", x.back(n), m.back(n));
      } else {
        same("reading(" + t + "," + g + "," + v + ")", x.reading(t, g, v), m.reading(t, g, v));
      }
      int h = girl(), u = thrower();
      same("leans(" + h + ")", x.leans(h), m.leans(h));
      same("arms(" + u + ")", x.arms(u), m.arms(u));
      same("kinds(" + u + ")", x.kinds(u), m.kinds(u));
      same("leans(" + g + ")", x.leans(g), m.leans(g));
      same("arms(" + t + ")", x.arms(t), m.arms(t));
      same("kinds(" + t + ")", x.kinds(t), m.kinds(t));
    }

    void sheets() {
      int k = wild(0, 3), lane = laneOf(k), i = wild(0, 12), v = dice.nextInt() >> dice.nextInt(32);
      int other = wild(0, 3), j = wild(0, 12), n = wild(0, 12);
      switch (dice.nextInt(8)) {
        case 0: sheet(k, lane, wild(0, 14) * (dice.nextInt(20) == 0 ? 5 : 1)); break;
        case 1: if (dice.nextInt(4) == 0) same("lose(" + k + ")", x.lose(k), m.lose(k)); break;
        case 2: case 3: put(k, i, v); break;
        case 4: same("copy(" + k + "," + i + "," + other + "," + j + "," + n + ")", x.copy(k, i, other, j, n), m.copy(k, i, other, j, n)); break;
        case 5: same("copy(" + k + "," + i + "," + k + "," + j + "," + n + ")", x.copy(k, i, k, j, n), m.copy(k, i, k, j, n)); break;
        default: same("cell(" + k + "," + i + "," + lane + ")", x.cell(k, i, lane), m.cell(k, i, lane));
      }
    }

    void parts() {
      int t = thrower(), kind = wild(0, 2), what = wild(0, 4);
      same("tell(" + t + ")", x.tell(t), m.tell(t));
      same("cheer(" + t + ")", x.cheer(t), m.cheer(t));
      same("trace()", x.trace(), m.trace);
      same("as(" + t + "," + kind + ")", x.as(t, kind), m.as(t, kind));
      same("many(" + what + ")", x.many(what), m.many(what));
    }

    boolean goes() {
      if (dice.nextInt(10) != 0) text();
      for (int step = 0; step < CALLS && calls < CALLS - 80 && !failed; step++) {
        switch (dice.nextInt(24)) {
          case 0: text(); break;
          case 1: feast(); break;
          case 2: case 3: case 4: dales(); break;
          case 5: case 6: case 7: case 8: case 9: case 10: case 11: rings(); break;
          case 12: case 13: case 14: pairs(); break;
          case 15: case 16: readings(); break;
          case 17: parts(); break;
          default: sheets();
        }
        same("fault()", x.fault(), m.fault);
      }
      if (calls > CALLS) throw new IllegalStateException("a run asks too much: " + calls);
      return !failed;
    }
  }

  public static void main(String[] args) {
    int wrong = 0;
    long calls = 0;
    for (int seed = 1; seed <= RUNS && wrong < 3; seed++) {
      Run run = new Run(seed);
      if (!run.goes()) {
        wrong++;
        System.out.println("run " + seed + " differs");
      }
      calls += run.calls;
    }
    System.out.println(calls + " calls answered twice, " + wrong + " runs differ");
    if (wrong != 0) System.exit(1);
  }
}
