import java.math.BigInteger;

// Boundary cases of sheets and parts (==== 5), promises 24 to 34.
public final class BoundsOfSheetsTest extends Bounds {
  public static void main(String[] args) throws Exception {
    run(BoundsOfSheetsTest.class, "Terms 5", "Promise 24", "Promise 25", "Promise 26", "Promise 27",
        "Promise 28", "Promise 29", "Promise 30", "Promise 31", "Promise 32", "Promise 33", "Promise 34");
  }

  private static QuoitFeast sheet(int lane, int... cells) {
    QuoitFeast x = new QuoitFeast();
    row(x, 0, lane, cells);
    return x;
  }

  private static void cellsAre(String of, QuoitFeast x, int k, int lane, int... want) {
    for (int i = 0; i < want.length; i++) due(of + ", cell " + i, x.cell(k, i, lane), want[i]);
    due(of + ", no cell more", x.cell(k, want.length, lane), LOST);
  }

  // ---- sheets

  @Says(of = "Terms 5", words = "SHEETS 0 .. 3 have nothing (at first)")
  private static void sheets0To3HaveNothingAtFirst() {
    for (int k = 0; k <= 3; k++) {
      due("lose(" + k + ")", new QuoitFeast().lose(k), 0);
      due("sheet(" + k + ")", new QuoitFeast().sheet(k, 0, 1), 1);
    }
    due("sheet(-1)", new QuoitFeast().sheet(-1, 0, 1), UNKNOWN);
    due("sheet(4)", new QuoitFeast().sheet(4, 0, 1), UNKNOWN);
  }

  @Says(of = "Terms 5", words = "or a row of 0 .. 60 numbers (0 at first)")
  private static void rowsOf0And60NumbersAre0AtFirst() {
    for (int lane = 0; lane <= 2; lane++) {
      QuoitFeast x = new QuoitFeast();
      x.sheet(0, lane, 60);
      cellsAre("60 numbers of lane " + lane, x, 0, lane, new int[60]);
      x.sheet(0, lane, 0);
      cellsAre("no numbers of lane " + lane, x, 0, lane);
    }
  }

  @Says(of = "Terms 5", words = "(0 at first)")
  private static void aNewRowHasNothingOfTheOldOne() {
    QuoitFeast x = new QuoitFeast();
    x.sheet(0, 2, 60);
    for (int i = 0; i < 60; i++) x.put(0, i, -1);
    x.sheet(0, 2, 2);
    cellsAre("a shorter row", x, 0, 2, 0, 0);
    x.sheet(0, 0, 60);
    cellsAre("a longer row again", x, 0, 0, new int[60]);
  }

  @Says(of = "Terms 5", words = "of a LANE: 0 bytes, 1 shorts, 2 ints; what comes to a cell of it is cut to its LANE")
  private static void bytesWrapAround() {
    QuoitFeast x = sheet(0, 127, 128, -128, -129, 255, 256, MAX, MIN, 32768);
    cellsAre("bytes", x, 0, 0, 127, -128, -128, 127, -1, 0, -1, 0, 0);
  }

  @Says(of = "Terms 5", words = "of a LANE: 0 bytes, 1 shorts, 2 ints; what comes to a cell of it is cut to its LANE")
  private static void shortsWrapAround() {
    QuoitFeast x = sheet(1, 128, 32767, 32768, -32768, -32769, 65535, 65536, MAX, MIN);
    cellsAre("shorts", x, 0, 1, 128, 32767, -32768, -32768, 32767, -1, 0, -1, 0);
  }

  @Says(of = "Terms 5", words = "of a LANE: 0 bytes, 1 shorts, 2 ints; what comes to a cell of it is cut to its LANE")
  private static void intsAreNotCut() {
    QuoitFeast x = sheet(2, 128, 32768, 65536, MAX, MIN, -1);
    cellsAre("ints", x, 0, 2, 128, 32768, 65536, MAX, MIN, -1);
  }

  @Says(of = "Terms 5", words = "SHEETS 0 .. 3 have nothing (at first), or a row")
  private static void sheetsHaveNoCellsInCommon() {
    QuoitFeast x = new QuoitFeast();
    for (int k = 0; k < 4; k++) row(x, k, 2, k, k + 10);
    x.put(2, 0, 99);
    cellsAre("sheet 0", x, 0, 2, 0, 10);
    cellsAre("sheet 1", x, 1, 2, 1, 11);
    cellsAre("sheet 2", x, 2, 2, 99, 12);
    cellsAre("sheet 3", x, 3, 2, 3, 13);
  }

  // ---- tellings

  private static int left(int trace, int... bodies) {
    for (int body : bodies) trace = 31 * trace + body;
    return trace;
  }

  @Says(of = "Terms 5", words = "TELLING of THROWERS by bodies that leave their number in TRACE (an int that wraps, 0 at first, becomes 31 times it and the number)")
  private static void traceBegins0AndWraps() {
    QuoitFeast x = dale("q0,50;r5");
    due("at first", x.trace(), 0);
    BigInteger unbounded = BigInteger.ZERO;
    boolean below0 = false;
    for (int step = 0; step < 40; step++) {
      x.cheer(0);
      unbounded = unbounded.multiply(BigInteger.valueOf(31)).add(BigInteger.valueOf(4));
      due("after " + (step + 1), x.trace(), unbounded.intValue());
      below0 |= x.trace() < 0;
    }
    due("it was below 0 once", below0 ? 1 : 0, 1);
  }

  @Says(of = "Terms 5", words = "as they begin: RIGHT (1): ARM")
  private static void rightTellsHisArm() {
    QuoitFeast x = dale("q0,50;r1");
    due("least arm", x.tell(0), 1);
    x.train(0, 9);
    due("most arm", x.tell(0), 9);
    due("trace", x.trace(), left(0, 1, 1));
  }

  @Says(of = "Terms 5", words = "LEFT (2): what RIGHT's gives, and 100")
  private static void leftTells100More() {
    QuoitFeast x = dale("q0,50;l1");
    due("least arm", x.tell(0), 101);
    due("trace", x.trace(), left(0, 2, 1));
    x.train(0, 9);
    due("most arm", x.tell(0), 109);
    due("trace", x.trace(), left(0, 2, 1, 2, 1));
  }

  @Says(of = "Terms 5", words = "STRANGER (3): what LEFT's gives, and what RIGHT's gives (LEFT's left out)")
  private static void strangerTellsBoth() {
    QuoitFeast x = dale("q0,50;s1");
    due("least arm", x.tell(0), 102);
    due("trace", x.trace(), left(0, 3, 2, 1, 1));
    x.train(0, 9);
    due("most arm", x.tell(0), 118);
    due("trace", x.trace(), left(0, 3, 2, 1, 1, 3, 2, 1, 1));
  }

  @Says(of = "Terms 5", words = "CHEERED by a lent body (4): its number; STRANGERS have their own (5): 50")
  private static void cheeredByTheLentBodyOrTheirOwn() {
    QuoitFeast x = dale("q0,50;r9;l9;s9;l8;r8");
    int[] want = {0, 1, 50, 3, 4};
    int[] bodies = {4, 4, 5, 4, 4};
    int trace = 0;
    for (int t = 0; t < 5; t++) {
      due("cheer(" + t + ")", x.cheer(t), want[t]);
      due("trace", x.trace(), trace = left(trace, bodies[t]));
    }
  }

  // ---- promise 24: sheet

  @Says(of = "Promise 24", words = "OUTSIDE: lane, n above 60; SIZE")
  private static void sheetOf0To60Cells() {
    QuoitFeast x = new QuoitFeast();
    due("60 cells", x.sheet(0, 0, 60), 1);
    due("the last is there", x.put(0, 59, 1), 1);
    faulty("no 61st", x, y -> y.put(0, 60, 1), INDEX);
    due("no cells", x.sheet(0, 0, 0), 1);
    faulty("not one", x, y -> y.put(0, 0, 1), INDEX);
    due("it has a row, though", x.lose(0), 1);
    due("61 cells", x.sheet(0, 0, 61), OUTSIDE);
    due("fault()", x.fault(), 0);
    due("most cells", x.sheet(0, 0, MAX), OUTSIDE);
    due("it still has nothing", x.lose(0), 0);
  }

  @Says(of = "Promise 24", words = "OUTSIDE: lane, n above 60; SIZE")
  private static void sheetOfFewerThanNoCells() {
    faulty("-1 cells", new QuoitFeast(), x -> x.sheet(0, 0, -1), SIZE);
    faulty("least cells", new QuoitFeast(), x -> x.sheet(0, 0, MIN), SIZE);
    QuoitFeast x = sheet(1, 5, 6);
    x.sheet(0, 1, -1);
    cellsAre("the old row stays", x, 0, 1, 5, 6);
  }

  @Says(of = "Promise 24", words = "OUTSIDE: lane")
  private static void sheetOfLanes0To2() {
    for (int lane = 0; lane <= 2; lane++) due("lane " + lane, new QuoitFeast().sheet(0, lane, 1), 1);
    for (int lane : new int[] {-1, 3, MIN, MAX}) due("lane " + lane, new QuoitFeast().sheet(0, lane, 1), OUTSIDE);
  }

  @Says(of = "Promise 24", words = "UNKNOWN; OUTSIDE: lane, n above 60; SIZE")
  private static void sheetTellsTheFirstInThisOrder() {
    due("unknown, lane, above 60", fair().sheet(4, 3, 61), UNKNOWN);
    due("unknown, size", fair().sheet(-1, 0, -1), UNKNOWN);
    due("lane, size", fair().sheet(0, 3, -1), OUTSIDE);
    due("lane, size", fair().sheet(0, -1, MIN), OUTSIDE);
  }

  @Says(of = "Promise 24", words = "A SHEET gets a new row: 1")
  private static void sheetMayGetAnotherLane() {
    QuoitFeast x = sheet(0, 1, 2, 3);
    due("shorts", x.sheet(0, 1, 2), 1);
    due("its lane", x.cell(0, 0, 1), 0);
    lost("not the old one", x, y -> y.cell(0, 0, 0), CAST);
  }

  // ---- promise 25: lose

  @Says(of = "Promise 25", words = "A SHEET has nothing: 1; 0: it had nothing. UNKNOWN")
  private static void loseOnceAndTwice() {
    for (int k = 0; k <= 3; k++) {
      QuoitFeast x = new QuoitFeast();
      due("it had nothing", x.lose(k), 0);
      x.sheet(k, 0, 0);
      due("a row of none is something", x.lose(k), 1);
      due("it had nothing", x.lose(k), 0);
      x.sheet(k, 0, 60);
      due("a row", x.lose(k), 1);
      int sheet = k;
      faulty("nothing to put to", x, y -> y.put(sheet, 0, 0), NULL);
    }
    for (int k : new int[] {-1, 4, MIN, MAX}) due("lose(" + k + ")", new QuoitFeast().lose(k), UNKNOWN);
  }

  @Says(of = "Promise 25", words = "A SHEET has nothing: 1")
  private static void loseTouchesNothingElse() {
    QuoitFeast x = fair();
    x.lose(0);
    due("the dale made of it stands", x.many(0), 3);
    due("the others stay", x.cell(1, 0, 1), 7);
    x.sheet(0, 0, 23);
    due("what was lost does not come back", x.cell(0, 0, 0), 0);
  }

  // ---- promise 26: put

  @Says(of = "Promise 26", words = "Cell i of a SHEET becomes v: 1. UNKNOWN; NULL; INDEX")
  private static void putToTheFirstAndTheLastCell() {
    QuoitFeast x = sheet(2, 1, 2, 3);
    due("the first", x.put(0, 0, MIN), 1);
    due("the last", x.put(0, 2, MAX), 1);
    for (int i : new int[] {-1, 3, MIN, MAX}) faulty("cell " + i, x, y -> y.put(0, i, 9), INDEX);
    cellsAre("only these", x, 0, 2, MIN, 2, MAX);
  }

  @Says(of = "Promise 26", words = "UNKNOWN; NULL; INDEX")
  private static void putTellsTheFirstInThisOrder() {
    due("unknown, null, index", new QuoitFeast().put(4, -1, 0), UNKNOWN);
    due("unknown, index", fair().put(-1, 60, 0), UNKNOWN);
    faulty("null, index", new QuoitFeast(), x -> x.put(0, -1, 0), NULL);
    faulty("null, index", new QuoitFeast(), x -> x.put(3, 60, 0), NULL);
  }

  @Says(of = "Promise 26", words = "Cell i of a SHEET becomes v: 1")
  private static void putChangesThatCellAlone() {
    leaves("there and back", Bounds::fair, x -> x.put(1, 2, 5) * 10 + x.put(1, 2, 9), 11);
  }

  // ---- promise 27: cell

  @Says(of = "Promise 27", words = "Cell i of what a SHEET has, taken as a row of a LANE")
  private static void cellOfTheFirstAndTheLast() {
    QuoitFeast x = sheet(1, 11, 12, -13);
    due("the first", x.cell(0, 0, 1), 11);
    due("the last", x.cell(0, 2, 1), -13);
    due("fault()", x.fault(), 0);
    for (int i : new int[] {-1, 3, 60, MIN, MAX}) lost("cell " + i, x, y -> y.cell(0, i, 1), INDEX);
  }

  @Says(of = "Promise 27", words = "OUTSIDE: lane;")
  private static void cellOfLanes0To2() {
    for (int lane = 0; lane <= 2; lane++) due("lane " + lane, sheet(lane, 5).cell(0, 0, lane), 5);
    for (int lane : new int[] {-1, 3, MIN, MAX}) lost("lane " + lane, sheet(0, 5), x -> x.cell(0, 0, lane), 0);
  }

  @Says(of = "Promise 27", words = "FAULTS CAST (nothing is no CAST), NULL, INDEX")
  private static void cellOfAnotherLaneAndOfNothing() {
    for (int of = 0; of <= 2; of++) {
      for (int lane = 0; lane <= 2; lane++) {
        int as = lane;
        if (of != lane) lost("lane " + of + " as " + lane, sheet(of, 5), x -> x.cell(0, 0, as), CAST);
        lost("nothing as " + lane, new QuoitFeast(), x -> x.cell(0, 0, as), NULL);
      }
    }
    QuoitFeast x = new QuoitFeast();
    x.sheet(0, 0, 0);
    lost("a row of none is a row", x, y -> y.cell(0, 0, 1), CAST);
    lost("a row of none is a row", x, y -> y.cell(0, 0, 0), INDEX);
  }

  @Says(of = "Promise 27", words = "LOST: UNKNOWN, OUTSIDE: lane; FAULTS CAST (nothing is no CAST), NULL, INDEX")
  private static void cellTellsTheFirstInThisOrder() {
    lost("unknown, lane", fair(), x -> x.cell(4, -1, 3), 0);
    lost("unknown, index", fair(), x -> x.cell(-1, -1, 0), 0);
    lost("lane, null", fair(), x -> x.cell(3, 0, 3), 0);
    lost("lane, index", fair(), x -> x.cell(0, -1, -1), 0);
    lost("cast, index", fair(), x -> x.cell(0, 23, 1), CAST);
    lost("null, index", fair(), x -> x.cell(3, -1, 1), NULL);
  }

  // ---- promise 28: copy

  @Says(of = "Promise 28", words = "n cells of a SHEET from i on go to another one (perhaps the same) from j on, as they were: n")
  private static void copyOntoTheSameSheetAsTheyWere() {
    QuoitFeast x = sheet(2, 1, 2, 3, 4, 5);
    due("onward by one", x.copy(0, 0, 0, 1, 4), 4);
    cellsAre("onward", x, 0, 2, 1, 1, 2, 3, 4);
    row(x, 0, 2, 1, 2, 3, 4, 5);
    due("backward by one", x.copy(0, 1, 0, 0, 4), 4);
    cellsAre("backward", x, 0, 2, 2, 3, 4, 5, 5);
    row(x, 0, 2, 1, 2, 3, 4, 5);
    due("onto themselves", x.copy(0, 0, 0, 0, 5), 5);
    cellsAre("onto themselves", x, 0, 2, 1, 2, 3, 4, 5);
    due("apart", x.copy(0, 0, 0, 3, 2), 2);
    cellsAre("apart", x, 0, 2, 1, 2, 3, 1, 2);
  }

  @Says(of = "Promise 28", words = "n cells of a SHEET from i on go to another one (perhaps the same) from j on, as they were: n")
  private static void copyOfNoneOfSomeAndOfAll() {
    QuoitFeast x = sheet(1, 1, 2, 3);
    row(x, 3, 1, 7, 8, 9, 10);
    due("none", x.copy(0, 0, 3, 0, 0), 0);
    due("none from the end to the end", x.copy(0, 3, 3, 4, 0), 0);
    cellsAre("none", x, 3, 1, 7, 8, 9, 10);
    due("all, to the end", x.copy(0, 0, 3, 1, 3), 3);
    cellsAre("all", x, 3, 1, 7, 1, 2, 3);
    due("the last to the first", x.copy(0, 2, 3, 0, 1), 1);
    cellsAre("the last to the first", x, 3, 1, 3, 1, 2, 3);
    cellsAre("they stay where they were", x, 0, 1, 1, 2, 3);
    QuoitFeast full = new QuoitFeast();
    full.sheet(0, 0, 60);
    full.sheet(1, 0, 60);
    full.put(0, 59, 5);
    due("60 cells", full.copy(0, 0, 1, 0, 60), 60);
    due("the last of 60", full.cell(1, 59, 0), 5);
  }

  @Says(of = "Promise 28", words = "n cells of a SHEET from i on go to another one (perhaps the same) from j on, as they were: n")
  private static void copyLeavesTheCellsAroundAlone() {
    for (int other = 0; other <= 1; other++) {
      for (int i = 0; i <= 6; i++) {
        for (int j = 0; j <= 6; j++) {
          for (int n = 0; n <= 6 - Math.max(i, j); n++) copyOfSix(i, other, j, n);
        }
      }
    }
  }

  private static void copyOfSix(int i, int other, int j, int n) {
    QuoitFeast x = sheet(0, 1, 2, 3, 4, 5, 6);
    row(x, 1, 0, 11, 12, 13, 14, 15, 16);
    int[][] want = {{1, 2, 3, 4, 5, 6}, {11, 12, 13, 14, 15, 16}};
    for (int c = 0; c < n; c++) want[other][j + c] = 1 + i + c;
    String name = "copy(0, " + i + ", " + other + ", " + j + ", " + n + ")";
    due(name, x.copy(0, i, other, j, n), n);
    for (int k = 0; k <= 1; k++) cellsAre(name + ", sheet " + k, x, k, 0, want[k]);
  }

  @Says(of = "Promise 28", words = "FAULTS NULL (the first, the other)")
  private static void copyFromOrToNothing() {
    faulty("from nothing", fair(), x -> x.copy(3, 0, 0, 0, 0), NULL);
    faulty("to nothing", fair(), x -> x.copy(0, 0, 3, 0, 0), NULL);
    faulty("from nothing to itself", fair(), x -> x.copy(3, 0, 3, 0, 0), NULL);
  }

  @Says(of = "Promise 28", words = "CAST (unlike LANES)")
  private static void copyAmongUnlikeLanes() {
    for (int from = 0; from <= 2; from++) {
      for (int to = 0; to <= 2; to++) {
        QuoitFeast x = sheet(from, 5);
        row(x, 1, to, 6);
        if (from == to) due("lane " + from + " to its like", x.copy(0, 0, 1, 0, 1), 1);
        else faulty("lane " + from + " to " + to, x, y -> y.copy(0, 0, 1, 0, 1), CAST);
        if (from != to) faulty("none of lane " + from + " to " + to, x, y -> y.copy(0, 0, 1, 0, 0), CAST);
      }
    }
  }

  @Says(of = "Promise 28", words = "INDEX: i, j, n below 0 or beyond")
  private static void copyBefore0OrBeyond() {
    Maker five = () -> {
      QuoitFeast x = sheet(0, 1, 2, 3, 4, 5);
      row(x, 1, 0, 6, 7);
      return x;
    };
    int[][] wrong = {
      {-1, 0, 1}, {0, -1, 1}, {0, 0, -1}, {6, 0, 0}, {0, 3, 0}, {5, 0, 1}, {4, 0, 2}, {0, 2, 1}, {0, 1, 2}, {0, 0, 3},
      {MIN, 0, 1}, {0, MIN, 1}, {0, 0, MIN}, {MAX, 0, 1}, {0, MAX, 1}, {0, 0, MAX}, {1, 1, MAX}, {MAX, MAX, MAX}, {-1, -1, -1}
    };
    for (int[] w : wrong) {
      String name = "copy from " + w[0] + " to " + w[1] + " of " + w[2];
      leaves(name, five, x -> x.copy(0, w[0], 1, w[1], w[2]), -10 - INDEX);
      faulty(name, five.make(), x -> x.copy(0, w[0], 1, w[1], w[2]), INDEX);
    }
    due("the last two", five.make().copy(0, 3, 1, 0, 2), 2);
    due("to the last", five.make().copy(0, 4, 1, 1, 1), 1);
    faulty("more than the first has", five.make(), x -> x.copy(1, 0, 0, 0, 3), INDEX);
  }

  @Says(of = "Promise 28", words = "UNKNOWN; FAULTS NULL (the first, the other), CAST (unlike LANES), INDEX")
  private static void copyTellsTheFirstInThisOrder() {
    due("the first unknown, the other null", fair().copy(4, 0, 3, 0, 0), UNKNOWN);
    due("the first null, the other unknown", fair().copy(3, 0, 4, 0, 0), UNKNOWN);
    due("unknown, index", fair().copy(0, -1, -1, -1, -1), UNKNOWN);
    faulty("null, index", fair(), x -> x.copy(3, -1, 0, -1, -1), NULL);
    faulty("the other null, index", fair(), x -> x.copy(0, -1, 3, -1, -1), NULL);
    faulty("cast, index", fair(), x -> x.copy(0, -1, 1, -1, -1), CAST);
    faulty("cast, index", fair(), x -> x.copy(1, 0, 2, 0, 99), CAST);
  }

  // ---- promises 29 to 32

  @Says(of = "Promise 29", words = "TELLING of a THROWER. UNKNOWN")
  private static void tellOfNoSuchThrower() {
    QuoitFeast x = dale("q0,50;r5;l5");
    for (int t : new int[] {-1, 2, MIN, MAX}) due("tell(" + t + ")", x.tell(t), UNKNOWN);
    due("no trace of it", x.trace(), 0);
    due("the last", x.tell(1), 105);
    due("without a dale", new QuoitFeast().tell(0), UNKNOWN);
  }

  @Says(of = "Promise 30", words = "How it is CHEERED. UNKNOWN")
  private static void cheerOfNoSuchThrower() {
    QuoitFeast x = dale("q0,50;r5;l5");
    for (int t : new int[] {-1, 2, MIN, MAX}) due("cheer(" + t + ")", x.cheer(t), UNKNOWN);
    due("no trace of it", x.trace(), 0);
    due("the last", x.cheer(1), 1);
    due("without a dale", new QuoitFeast().cheer(0), UNKNOWN);
  }

  @Says(of = "Promise 31", words = "A THROWER, taken as one of a kind: 1. UNKNOWN; OUTSIDE; CAST")
  private static void asOfKinds0To2() {
    QuoitFeast x = dale("q0,50;s5");
    for (int kind = 0; kind <= 2; kind++) due("as(0, " + kind + ")", x.as(0, kind), 1);
    for (int kind : new int[] {-1, 3, MIN, MAX}) due("as(0, " + kind + ")", x.as(0, kind), OUTSIDE);
  }

  @Says(of = "Promise 31", words = "CAST: it is none (each is a RIGHT one, too; a STRANGER is a LEFT one)")
  private static void asOneThatItIsNot() {
    QuoitFeast x = dale("q0,50;r5;l5;s5");
    for (int t = 0; t < 3; t++) {
      for (int kind = 0; kind < 3; kind++) {
        int who = t, as = kind;
        if (kind <= t) due("as(" + t + ", " + kind + ")", x.as(t, kind), 1);
        else faulty("as(" + t + ", " + kind + ")", x, y -> y.as(who, as), CAST);
        if (kind <= t) due("fault()", x.fault(), 0);
      }
    }
    due("it leaves no trace", x.trace(), 0);
    due("he stays what he is", x.ofThrower(2, 0), 2);
  }

  @Says(of = "Promise 31", words = "UNKNOWN; OUTSIDE; CAST")
  private static void asTellsTheFirstInThisOrder() {
    due("unknown, outside", fair().as(4, 3), UNKNOWN);
    due("unknown, outside", fair().as(-1, -1), UNKNOWN);
    due("outside, for one who is RIGHT alone", fair().as(0, 3), OUTSIDE);
    due("without a dale", new QuoitFeast().as(0, 3), UNKNOWN);
  }

  @Says(of = "Promise 32", words = "TRACE.")
  private static void traceIsAskedWithoutLeavingAny() {
    QuoitFeast x = dale("q0,50;r5");
    x.tell(0);
    due("once", x.trace(), 1);
    due("twice", x.trace(), 1);
    due("at first", new QuoitFeast().trace(), 0);
  }

  @Says(of = "Promise 32", words = "TRACE.")
  private static void traceIsLeftByTellAndCheerAlone() {
    QuoitFeast x = fair();
    int trace = x.trace();
    due("of a stranger's telling", trace, left(0, 3, 2, 1, 1));
    x.as(2, 1);
    x.ofThrower(2, 2);
    x.measure(2, 0);
    x.hurl(2, 2);
    x.kinds(2);
    x.wins(2);
    x.weds(2);
    x.match(2);
    x.odds(2, 2, 0);
    x.feast(2, 2, 0, 3, 0);
    due("after other calls", x.trace(), trace);
  }

  // ---- promise 33: fault

  @Says(of = "Promise 33", words = "(0 ahead of any)")
  private static void faultIs0AheadOfAny() {
    QuoitFeast x = new QuoitFeast();
    due("at first", x.fault(), 0);
    x.lose(0);
    x.many(9);
    x.ofGirl(9, 9);
    due("after calls that name none", x.fault(), 0);
  }

  @Says(of = "Promise 33", words = "The FAULT of the latest call that names one: 0: it came to none, or was refused")
  private static void faultIs0AfterACallThatNamesOneAndCameToNone() {
    Call[] fine = {
      x -> x.dale(0, 0, 0, 23), x -> x.dale(0, 0, 0, 1), x -> x.feast(2, 2, 0, 3, 0), x -> x.sheet(3, 0, 1),
      x -> x.put(0, 0, 1), x -> x.cell(0, 0, 0), x -> x.copy(0, 0, 0, 0, 1), x -> x.as(0, 0)
    };
    for (int c = 0; c < fine.length; c++) {
      QuoitFeast x = fair();
      due("fault() before call " + c, x.fault(), CAST);
      fine[c].on(x);
      due("fault() after call " + c, x.fault(), 0);
    }
    QuoitFeast wrong = dale("q0,50;r5");
    row(wrong, 0, 0, 0, 3);
    wrong.as(0, 1);
    due("a first wrong", wrong.feast(0, 0, 0, 1, 0), -100);
    due("is no fault", wrong.fault(), 0);
  }

  @Says(of = "Promise 33", words = "The FAULT of the latest call that names one: 0: it came to none, or was refused")
  private static void faultIs0AfterARefusalWithoutADale() {
    QuoitFeast x = sheetsAlone();
    due("before", x.fault(), INDEX);
    x.feast(2, 2, 0, 1, 0);
    due("feast", x.fault(), 0);
    QuoitFeast y = sheetsAlone();
    y.as(0, 0);
    due("as", y.fault(), 0);
  }

  @Says(of = "Promise 33", words = "The FAULT of the latest call that names one")
  private static void faultStaysOverCallsThatNameNone() {
    Call[] others = {
      x -> x.ofGirl(0, 0), x -> x.ofThrower(0, 0), x -> x.freeze(0), x -> x.lean(0, 0), x -> x.place(0, 1),
      x -> x.train(0, 1), x -> x.measure(0, 0), x -> x.hurl(0, 2), x -> x.lift(0), x -> x.clear(0), x -> x.wins(0),
      x -> x.match(0), x -> x.weds(0), x -> x.even(0, 1, 0), x -> x.reading(0, 0, 0), x -> x.back(1), x -> x.leans(0),
      x -> x.arms(0), x -> x.kinds(0), x -> x.odds(0, 0, 0), x -> x.lose(0), x -> x.lose(3), x -> x.tell(0),
      x -> x.cheer(0), x -> x.trace(), x -> x.fault(), x -> x.many(0)
    };
    for (int c = 0; c < others.length; c++) {
      QuoitFeast x = fair();
      others[c].on(x);
      due("fault() after call " + c, x.fault(), CAST);
    }
  }

  @Says(of = "Promise 33", words = "The FAULT of the latest call that names one")
  private static void faultIsTheLatestOfSeveral() {
    QuoitFeast x = fair();
    int[] want = {NULL, CAST, INDEX, SIZE, NULL};
    Call[] calls = {x2 -> x2.put(3, 0, 0), x2 -> x2.as(0, 2), x2 -> x2.put(0, -1, 0), x2 -> x2.sheet(0, 0, -1), x2 -> x2.cell(3, 0, 0)};
    for (int c = 0; c < calls.length; c++) {
      calls[c].on(x);
      due("fault() after call " + c, x.fault(), want[c]);
      due("asked again", x.fault(), want[c]);
    }
  }

  // ---- promise 34: many

  @Says(of = "Promise 34", words = "(0 all without a DALE). OUTSIDE")
  private static void manyWithoutADale() {
    for (int what = 0; what <= 4; what++) due("many(" + what + ")", sheetsAlone().many(what), 0);
    for (int what : new int[] {-1, 5, MIN, MAX}) due("many(" + what + ")", sheetsAlone().many(what), OUTSIDE);
  }

  @Says(of = "Promise 34", words = "How many: 0 GIRLS, 1 THROWERS, 2 FROST, 3 RINGS that lie, 4 READINGS")
  private static void manyOfTheMostThatCanBe() {
    QuoitFeast x = dale("q3,50,50,50,50;r5;r5;r5;r5;r5");
    for (int g = 0; g < 4; g++) hurl(x, 9, 0, g);
    for (int r = 0; r < 9; r++) x.reading(0, 0, 0);
    int[] want = {4, 5, 3, 32, 8};
    for (int what = 0; what <= 4; what++) due("many(" + what + ")", x.many(what), want[what]);
    for (int what : new int[] {-1, 5, MIN, MAX}) due("many(" + what + ")", x.many(what), OUTSIDE);
  }

  @Says(of = "Promise 34", words = "How many: 0 GIRLS, 1 THROWERS, 2 FROST, 3 RINGS that lie, 4 READINGS")
  private static void manyOfTheLeastThatCanBe() {
    QuoitFeast x = dale("q0,50;r5");
    int[] want = {1, 1, 0, 0, 0};
    for (int what = 0; what <= 4; what++) due("many(" + what + ")", x.many(what), want[what]);
  }
}
