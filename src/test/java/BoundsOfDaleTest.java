// Boundary cases of the dale: the text (==== 1) and promises 1 to 8.
public final class BoundsOfDaleTest extends Bounds {
  /** As many girls and throwers as there may be: 29 codes. */
  private static final String LONGEST = "q3,99,10,11,12;r1;l2;s3;r4;r9";
  private static final String SHORTEST = "q0,10;r1";

  public static void main(String[] args) throws Exception {
    run(BoundsOfDaleTest.class, "Terms 1", "Promise 1", "Promise 2", "Promise 3", "Promise 4",
        "Promise 5", "Promise 6", "Promise 7", "Promise 8");
  }

  /** A text that is not taken, by its first fault; the dale that stood before goes on standing. */
  private static void faultAt(int place, String text) {
    QuoitFeast x = dale("q2,34,56;s7");
    due("dale by '" + text + "'", read(x, text), -100 - place);
    due("fault() after it", x.fault(), 0);
    due("girls after it", x.many(0), 2);
    due("throwers after it", x.many(1), 1);
    due("frost after it", x.many(2), 2);
  }

  private static QuoitFeast taken(String text, int throwers) {
    QuoitFeast x = new QuoitFeast();
    due("dale by '" + text + "'", read(x, text), throwers);
    return x;
  }

  // ---- the text

  @Says(of = "Terms 1", words = "A DALE by a TEXT: q, a digit 0 .. 3 (FROST)")
  private static void textOpensWithQ() {
    for (int code : new int[] {112, 114, 'Q', 0, -1, 113 + 256, 113 + 65536, MIN, MAX}) {
      due("code " + code, read(new QuoitFeast(), code), -100);
    }
    due("q alone ends too soon", read(new QuoitFeast(), 113), -101);
  }

  @Says(of = "Terms 1", words = "q, a digit 0 .. 3 (FROST)")
  private static void frostOfATextIs0To3() {
    due("least frost", taken("q0,10;r1", 1).many(2), 0);
    due("most frost", taken("q3,10;r1", 1).many(2), 3);
    faultAt(1, "q/,10;r1");
    faultAt(1, "q4,10;r1");
    faultAt(1, "q9,10;r1");
    faultAt(1, "q:,10;r1");
  }

  @Says(of = "Terms 1", words = "then 1 to 4 GIRLS, numbered from 0 on")
  private static void girlsOfATextAre1To4() {
    faultAt(2, "q0;r1");
    due("one girl", taken("q0,10;r1", 1).many(0), 1);
    QuoitFeast four = taken("q0,10,21,32,43;r1", 1);
    due("four girls", four.many(0), 4);
    for (int g = 0; g < 4; g++) {
      due("yards of girl " + g, four.ofGirl(g, 0), g + 1);
      due("lean of girl " + g, four.ofGirl(g, 1), g);
    }
  }

  @Says(of = "Terms 1", words = "(the , of a fifth GIRL, the ; of a sixth THROWER)")
  private static void commaOfAFifthGirlIsTheFirstFault() {
    faultAt(14, "q0,10,21,32,43,54;r1");
    faultAt(14, "q0,10,21,32,43,");
  }

  @Says(of = "Terms 1", words = "each: , and a digit 1 .. 9 (YARDS)")
  private static void yardsOfATextAre1To9() {
    due("least yards", taken("q0,10;r1", 1).ofGirl(0, 0), 1);
    due("most yards", taken("q0,90;r1", 1).ofGirl(0, 0), 9);
    faultAt(3, "q0,00;r1");
    faultAt(3, "q0,:0;r1");
    faultAt(3, "q0,/0;r1");
  }

  @Says(of = "Terms 1", words = "a digit 0 .. 9 (LEAN)")
  private static void leanOfATextIs0To9() {
    due("least lean", taken("q0,10;r1", 1).ofGirl(0, 1), 0);
    due("most lean", taken("q0,19;r1", 1).ofGirl(0, 1), 9);
    faultAt(4, "q0,1/;r1");
    faultAt(4, "q0,1:;r1");
    faultAt(4, "q0,1;r1");
  }

  @Says(of = "Terms 1", words = "then 1 to 5 THROWERS, numbered from 0 on")
  private static void throwersOfATextAre1To5() {
    faultAt(5, "q0,10");
    due("one thrower", taken("q0,10;r1", 1).many(1), 1);
    QuoitFeast five = taken("q0,10;r1;r2;r3;r4;r5", 5);
    due("five throwers", five.many(1), 5);
    for (int t = 0; t < 5; t++) due("arm of thrower " + t, five.ofThrower(t, 1), t + 1);
  }

  @Says(of = "Terms 1", words = "(the , of a fifth GIRL, the ; of a sixth THROWER)")
  private static void semicolonOfASixthThrowerIsTheFirstFault() {
    faultAt(20, "q0,10;r1;r2;r3;r4;r5;r6");
    faultAt(20, "q0,10;r1;r2;r3;r4;r5;");
    faultAt(29, LONGEST + ";r1");
  }

  @Says(of = "Terms 1", words = "each: ; and a letter, a digit 1 .. 9 (ARM)")
  private static void lettersAreRLSAlone() {
    due("r", taken("q0,10;r1", 1).ofThrower(0, 0), 0);
    due("l", taken("q0,10;l1", 1).ofThrower(0, 0), 1);
    due("s", taken("q0,10;s1", 1).ofThrower(0, 0), 2);
    for (char letter : "kmqtRLS1;,".toCharArray()) faultAt(6, "q0,10;" + letter + "1");
  }

  @Says(of = "Terms 1", words = "each: ; and a letter, a digit 1 .. 9 (ARM)")
  private static void armOfATextIs1To9() {
    due("least arm", taken("q0,10;r1", 1).ofThrower(0, 1), 1);
    due("most arm", taken("q0,10;r9", 1).ofThrower(0, 1), 9);
    faultAt(7, "q0,10;r0");
    faultAt(7, "q0,10;r:");
    faultAt(7, "q0,10;r/");
  }

  @Says(of = "Terms 1", words = "FIRST FAULT: the place (from 0 on) of the first code with which no TEXT goes on")
  private static void noGirlGoesOnBehindAThrower() {
    faultAt(8, "q0,10;r1,20");
    faultAt(8, "q0,10;r1,20;r1");
  }

  @Says(of = "Terms 1", words = "the place (from 0 on) of the first code with which no TEXT goes on")
  private static void nothingElseGoesOnBehindAThrower() {
    for (char code : "q0r9 ".toCharArray()) faultAt(8, SHORTEST + code);
    faultAt(29, LONGEST + "9");
  }

  @Says(of = "Terms 1", words = "the place (from 0 on) of the first code with which no TEXT goes on")
  private static void ofTwoFaultsTheFirst() {
    faultAt(0, "x4,00;t0");
    faultAt(1, "q4,00;t0");
    faultAt(3, "q3,00;t0");
    faultAt(6, "q3,10;t0");
    faultAt(7, "q3,10;s0");
  }

  @Says(of = "Terms 1", words = "the place (from 0 on) of the first code with which no TEXT goes on")
  private static void placesCountFromTheTextsOwnFirstCode() {
    QuoitFeast x = new QuoitFeast();
    row(x, 0, 0, codes("zzzq0,00;r1"));
    due("dale from 3 on", x.dale(0, 0, 3, 8), -103);
    due("dale from 2 on", x.dale(0, 0, 2, 8), -100);
  }

  @Says(of = "Terms 1", words = "how many codes there are, if it just ends too soon")
  private static void everyTextThatEndsTooSoon() {
    for (int n = 0; n <= LONGEST.length(); n++) {
      boolean whole = n >= 17 && (n - 17) % 3 == 0;
      int throwers = (n - 14) / 3;
      due("the first " + n + " codes", read(new QuoitFeast(), LONGEST.substring(0, n)), whole ? throwers : -100 - n);
    }
  }

  @Says(of = "Terms 1", words = "(Codes: q 113, r 114, l 108, s 115, the comma 44, ; 59, digits 48 .. 57.)")
  private static void codesAreTheseNumbers() {
    QuoitFeast x = new QuoitFeast();
    due("dale", read(x, 113, 48, 44, 57, 48, 44, 49, 57, 59, 114, 49, 59, 108, 57, 59, 115, 53), 3);
    int[] yards = {9, 1}, leans = {0, 9}, arms = {1, 9, 5};
    for (int g = 0; g < 2; g++) {
      due("yards of girl " + g, x.ofGirl(g, 0), yards[g]);
      due("lean of girl " + g, x.ofGirl(g, 1), leans[g]);
    }
    for (int t = 0; t < 3; t++) {
      due("kind of thrower " + t, x.ofThrower(t, 0), t);
      due("arm of thrower " + t, x.ofThrower(t, 1), arms[t]);
    }
  }

  @Says(of = "Terms 1", words = "Kinds: 0 RIGHT (r); 1 LEFT (l), a RIGHT one; 2 STRANGER (s), a LEFT one")
  private static void kindsAreNumberedAndNested() {
    QuoitFeast x = dale("q0,10;r1;l1;s1");
    for (int t = 0; t < 3; t++) {
      due("kind of thrower " + t, x.ofThrower(t, 0), t);
      for (int kind = 0; kind < 3; kind++) due("as(" + t + ", " + kind + ")", x.as(t, kind), kind <= t ? 1 : -10 - CAST);
    }
  }

  @Says(of = "Terms 1", words = "A TEXT that is taken makes all anew: no RINGS lie, no READINGS")
  private static void aTextThatIsTakenLeavesNoRingsNoReadings() {
    QuoitFeast x = dale(FAIR);
    hurl(x, 8, 0, 0);
    x.hurl(1, 2);
    for (int r = 0; r < 8; r++) x.reading(0, 0, 9);
    due("the same text again", read(x, FAIR), 4);
    due("rings", x.many(3), 0);
    due("readings", x.many(4), 0);
    due("nobody has her", x.ofGirl(0, 3), NONE);
    due("room for a throw", x.hurl(0, 0), 0);
    due("room for a reading", x.reading(0, 0, 0), 0);
    due("no reading of before counts", x.leans(1), 1023);
  }

  @Says(of = "Terms 1", words = "A TEXT that is taken makes all anew: no RINGS lie, no READINGS")
  private static void whoIsNotInTheNewTextIsGone() {
    QuoitFeast x = dale(LONGEST);
    hurl(x, 3, 4, 3);
    due("a shorter text", read(x, SHORTEST), 1);
    due("girl 1", x.ofGirl(1, 0), UNKNOWN);
    due("girl 3", x.ofGirl(3, 0), UNKNOWN);
    due("thrower 1", x.ofThrower(1, 0), UNKNOWN);
    due("thrower 4", x.ofThrower(4, 0), UNKNOWN);
    due("the longest again", read(x, LONGEST), 5);
    due("nothing lies with girl 3", x.ofGirl(3, 2), 0);
    due("no ring of thrower 4 lies", x.ofThrower(4, 4), 0);
  }

  @Says(of = "Terms 1", words = "A TEXT that is taken makes all anew: no RINGS lie, no READINGS")
  private static void aTextThatIsTakenLeavesSheetsAndTrace() {
    // neither is of the dale: a trace is 0 "at first", sheets have nothing "at first"
    QuoitFeast x = fair();
    int trace = x.trace();
    due("dale", x.dale(0, 0, 0, 23), 4);
    due("trace", x.trace(), trace);
    due("the sheet it was read of", x.cell(0, 0, 0), 'q');
    due("another sheet", x.cell(1, 1, 1), -8);
  }

  @Says(of = "Terms 1", words = "A TEXT that is taken makes all anew: no RINGS lie, no READINGS")
  private static void aTextThatIsNotTakenLeavesAll() {
    leaves("a text that ends too soon", Bounds::fair, x -> x.dale(0, 0, 0, 22), -122);
    leaves("a text with a fault", Bounds::fair, x -> x.dale(0, 0, 1, 22), -100);
    leaves("no codes at all", Bounds::fair, x -> x.dale(0, 0, 0, 0), -100);
  }

  // ---- reach, off, measure

  @Says(of = "Terms 1", words = "REACH: of a RIGHT one ARM; of a LEFT one 1 more; of a STRANGER twice what a RIGHT one's is")
  private static void reachOfTheLeastAndTheMostArm() {
    QuoitFeast x = dale("q0,10;r1;l1;s1");
    int[] least = {1, 2, 2}, most = {9, 10, 18};
    for (int t = 0; t < 3; t++) {
      due("least reach of kind " + t, x.ofThrower(t, 2), least[t]);
      x.train(t, 9);
      due("most reach of kind " + t, x.ofThrower(t, 2), most[t]);
    }
  }

  @Says(of = "Terms 1", words = "OFF: how far REACH and YARDS are apart")
  private static void offIsTheSameEitherWay() {
    QuoitFeast x = dale("q0,50;r4;r6;r5;r1;r9");
    int[] off = {1, 1, 0, 4, 4};
    for (int t = 0; t < 5; t++) due("measure of thrower " + t, x.measure(t, 0), off[t]);
  }

  @Says(of = "Terms 1", words = "MEASURE of a throw: 0 (a RINGER), if OFF is no more than LEAN; else OFF and FROST")
  private static void offOfJustTheLeanIsARinger() {
    for (int lean = 0; lean <= 8; lean++) {
      QuoitFeast x = dale("q2,1" + lean + ";r" + (lean + 1));
      due("off " + lean + ", lean " + lean, x.measure(0, 0), 0);
      if (lean < 8) {
        x.train(0, lean + 2);
        due("off " + (lean + 1) + ", lean " + lean, x.measure(0, 0), lean + 1 + 2);
      }
    }
    QuoitFeast far = dale("q1,19;l9;s5;s6");
    due("off 9, lean 9", far.measure(0, 0), 0);
    due("off 9, lean 9", far.measure(1, 0), 0);
    due("off 11, lean 9", far.measure(2, 0), 12);
    far.place(0, 2);
    due("off 10, lean 9", far.measure(2, 0), 11);
  }

  @Says(of = "Terms 1", words = "0 (a RINGER), if OFF is no more than LEAN; else OFF and FROST")
  private static void frostDoesNotCountForARinger() {
    QuoitFeast x = dale("q3,50,51;r5;r4");
    due("off 0, lean 0, frost 3", x.measure(0, 0), 0);
    due("off 1, lean 1, frost 3", x.measure(1, 1), 0);
    due("off 1, lean 0, frost 3", x.measure(1, 0), 4);
    x.freeze(0);
    due("off 1, lean 0, frost 0", x.measure(1, 0), 1);
  }

  @Says(of = "Terms 1", words = "else OFF and FROST")
  private static void theFarthestMeasureIs20() {
    due("off 17, frost 3", dale("q3,10;s9").measure(0, 0), 20);
    due("off 17, lean 9, frost 3", dale("q3,19;s9").measure(0, 0), 20);
  }

  // ---- promise 1: a new object

  @Says(of = "Promise 1", words = "No DALE (no GIRLS, THROWERS), SHEETS have nothing")
  private static void aNewObjectHasNoDale() {
    QuoitFeast x = new QuoitFeast();
    due("fault", x.fault(), 0);
    due("trace", x.trace(), 0);
    for (int what = 0; what <= 4; what++) due("many(" + what + ")", x.many(what), 0);
    due("ofGirl", x.ofGirl(0, 0), UNKNOWN);
    due("ofThrower", x.ofThrower(0, 0), UNKNOWN);
    due("freeze", x.freeze(0), STATE);
    due("match", x.match(0), STATE);
  }

  @Says(of = "Promise 1", words = "SHEETS have nothing")
  private static void aNewObjectsSheetsHaveNothing() {
    for (int k = 0; k < 4; k++) {
      int number = k;
      QuoitFeast x = new QuoitFeast();
      due("lose(" + k + ")", x.lose(k), 0);
      faulty("put", x, y -> y.put(number, 0, 0), NULL);
      lost("cell", x, y -> y.cell(number, 0, 0), NULL);
      faulty("dale", x, y -> y.dale(number, 0, 0, 0), NULL);
      faulty("feast", x, y -> y.feast(number, 0, 0, 0, 0), NULL);
      faulty("copy", x, y -> y.copy(number, 0, number, 0, 0), NULL);
    }
  }

  @Says(of = "Promise 1", words = "No DALE (no GIRLS, THROWERS), SHEETS have nothing")
  private static void objectsHaveNothingInCommon() {
    QuoitFeast x = fair();
    QuoitFeast y = new QuoitFeast();
    due("girls of another object", y.many(0), 0);
    due("sheet of another object", y.lose(0), 0);
    due("trace of another object", y.trace(), 0);
    due("fault of another object", new QuoitFeast().fault(), 0);
    due("its own", x.many(0), 3);
  }

  // ---- promise 2: dale

  @Says(of = "Promise 2", words = "A DALE by a TEXT of n cells of a SHEET from i on")
  private static void daleTakesNoCellBeforeINorBehindN() {
    QuoitFeast x = new QuoitFeast();
    row(x, 2, 0, codes("qqq1,23;l4;r5"));
    due("from 2 on, 8 cells", x.dale(2, 0, 2, 8), 1);
    due("frost", x.many(2), 1);
    due("kind", x.ofThrower(0, 0), 1);
    due("from 2 on, all cells", x.dale(2, 0, 2, 11), 2);
    due("one cell before", x.dale(2, 0, 1, 9), -101);
    due("one cell less", x.dale(2, 0, 2, 10), -110);
  }

  @Says(of = "Promise 2", words = "taken as a row of a LANE")
  private static void daleOfEveryLane() {
    for (int lane = 0; lane <= 2; lane++) {
      QuoitFeast x = new QuoitFeast();
      row(x, lane, lane, codes(SHORTEST));
      due("lane " + lane, x.dale(lane, lane, 0, 8), 1);
    }
  }

  @Says(of = "Promise 2", words = "how many THROWERS; -100 less the FIRST FAULT")
  private static void daleAnswersTheThrowersOrTheFirstFault() {
    due("one thrower", read(new QuoitFeast(), SHORTEST), 1);
    due("five throwers", read(new QuoitFeast(), LONGEST), 5);
    due("a fault at place 0", read(new QuoitFeast(), "Q"), -100);
    due("a fault at place 29", read(new QuoitFeast(), LONGEST + LONGEST), -129);
  }

  @Says(of = "Promise 2", words = "UNKNOWN; OUTSIDE: lane;")
  private static void daleOfLanes0To2() {
    for (int lane : new int[] {-1, 3, MIN, MAX}) {
      due("lane " + lane, fair().dale(0, lane, 0, 23), OUTSIDE);
      due("lane " + lane + " of nothing", fair().dale(3, lane, 0, 0), OUTSIDE);
    }
    due("lane 0", fair().dale(0, 0, 0, 23), 4);
    due("lane 2", fair().dale(2, 2, 0, 1), -100);
  }

  @Says(of = "Promise 2", words = "FAULTS CAST (nothing is no CAST), NULL")
  private static void daleOfNothingIsNoCast() {
    for (int lane = 0; lane <= 2; lane++) {
      int as = lane;
      faulty("nothing as lane " + lane, fair(), x -> x.dale(3, as, 0, 0), NULL);
      if (lane != 0) faulty("bytes as lane " + lane, fair(), x -> x.dale(0, as, 0, 23), CAST);
      if (lane != 1) faulty("shorts as lane " + lane, fair(), x -> x.dale(1, as, 0, 3), CAST);
      if (lane != 2) faulty("ints as lane " + lane, fair(), x -> x.dale(2, as, 0, 6), CAST);
    }
  }

  @Says(of = "Promise 2", words = "SIZE: n is below 0")
  private static void daleOfFewerThanNoCells() {
    faulty("n -1", fair(), x -> x.dale(0, 0, 0, -1), SIZE);
    faulty("n least", fair(), x -> x.dale(0, 0, 0, MIN), SIZE);
    due("n 0", fair().dale(0, 0, 0, 0), -100);
  }

  @Says(of = "Promise 2", words = "INDEX: not all cells are there")
  private static void daleOfMoreCellsThanThereAre() {
    due("all cells", fair().dale(0, 0, 0, 23), 4);
    faulty("one more", fair(), x -> x.dale(0, 0, 0, 24), INDEX);
    due("the last cell", fair().dale(0, 0, 22, 1), -100);
    faulty("one behind the last", fair(), x -> x.dale(0, 0, 23, 1), INDEX);
    faulty("from -1 on", fair(), x -> x.dale(0, 0, -1, 8), INDEX);
    faulty("a sum beyond all ints", fair(), x -> x.dale(0, 0, 1, MAX), INDEX);
    faulty("a sum beyond all ints", fair(), x -> x.dale(0, 0, MAX, MAX), INDEX);
    faulty("a sum that wraps to 0", fair(), x -> x.dale(0, 0, MIN, MAX), INDEX);
  }

  @Says(of = "Promise 2", words = {"UNKNOWN; OUTSIDE: lane; FAULTS CAST (nothing is no CAST), NULL, SIZE", "INDEX: not all cells are there; -100 less it"})
  private static void daleTellsTheFirstInThisOrder() {
    due("unknown, lane, size, index", fair().dale(4, 3, -1, -1), UNKNOWN);
    due("lane, null, size, index", fair().dale(3, 3, -1, -1), OUTSIDE);
    due("lane, cast, size, index", fair().dale(0, 3, -1, -1), OUTSIDE);
    faulty("cast, size, index", fair(), x -> x.dale(0, 1, -1, -1), CAST);
    faulty("cast, index", fair(), x -> x.dale(0, 1, 0, 24), CAST);
    faulty("null, size, index", fair(), x -> x.dale(3, 1, -1, -1), NULL);
    faulty("null, index", fair(), x -> x.dale(3, 1, 0, 1), NULL);
    faulty("size, index", fair(), x -> x.dale(0, 0, -1, -1), SIZE);
    faulty("size, index", fair(), x -> x.dale(0, 0, 24, MIN), SIZE);
    faulty("index, a first fault", fair(), x -> x.dale(0, 0, 1, 23), INDEX);
  }

  // ---- promise 3: ofGirl

  @Says(of = "Promise 3", words = {"Of a GIRL: 0 YARDS, 1 LEAN", "5 how many of the RINGS are RINGERS", "UNKNOWN; OUTSIDE"})
  private static void ofGirlAsks0To5() {
    QuoitFeast x = dale("q0,62;r5;r1");
    x.hurl(1, 0);
    x.hurl(0, 0);
    int[] want = {6, 2, 2, 0, 0, 1};
    for (int what = 0; what <= 5; what++) due("ofGirl(0, " + what + ")", x.ofGirl(0, what), want[what]);
    for (int what : new int[] {-1, 6, MIN, MAX}) due("ofGirl(0, " + what + ")", x.ofGirl(0, what), OUTSIDE);
  }

  @Says(of = "Promise 3", words = "UNKNOWN; OUTSIDE")
  private static void ofGirlUnknownGoesFirst() {
    due("ofGirl(3, 6)", fair().ofGirl(3, 6), UNKNOWN);
    due("ofGirl(-1, -1)", fair().ofGirl(-1, -1), UNKNOWN);
    due("without a dale", new QuoitFeast().ofGirl(0, 6), UNKNOWN);
  }

  @Says(of = "Promise 3", words = "2 how many RINGS lie with her")
  private static void ofGirlFrom0To8Rings() {
    QuoitFeast x = dale("q0,50;r5");
    for (int rings = 0; rings <= 8; rings++) {
      due("rings", x.ofGirl(0, 2), rings);
      x.hurl(0, 0);
    }
    due("rings after a ninth", x.ofGirl(0, 2), 8);
  }

  @Says(of = "Promise 3", words = {"3 the THROWER who HAS her (NONE)", "4 MEASURE of his RING by which he does (NONE)"})
  private static void ofGirlWithNoRingIsNobodys() {
    QuoitFeast x = dale("q0,50;r5");
    due("who", x.ofGirl(0, 3), NONE);
    due("by which measure", x.ofGirl(0, 4), NONE);
    x.hurl(0, 0);
    due("who", x.ofGirl(0, 3), 0);
    due("by which measure", x.ofGirl(0, 4), 0);
    x.lift(0);
    due("who, lifted", x.ofGirl(0, 3), NONE);
    due("by which measure, lifted", x.ofGirl(0, 4), NONE);
  }

  @Says(of = "Promise 3", words = "4 MEASURE of his RING by which he does (NONE)")
  private static void ofGirlTellsTheRingByWhichAndNoOtherOfHis() {
    QuoitFeast x = dale("q1,50;r5;r1");
    x.hurl(1, 0);
    x.train(1, 4);
    x.hurl(1, 0);
    x.train(1, 9);
    x.hurl(1, 0);
    due("of 5, 2, 5", x.ofGirl(0, 4), 2);
  }

  @Says(of = "Promise 3", words = "5 how many of the RINGS are RINGERS")
  private static void ofGirlFrom0To8Ringers() {
    QuoitFeast x = dale("q0,50;r5;r4");
    hurl(x, 8, 1, 0);
    due("no ringers", x.ofGirl(0, 5), 0);
    x.clear(0);
    hurl(x, 8, 0, 0);
    due("eight ringers", x.ofGirl(0, 5), 8);
    x.lift(0);
    x.hurl(1, 0);
    due("seven ringers", x.ofGirl(0, 5), 7);
  }

  // ---- promise 4: ofThrower

  @Says(of = "Promise 4", words = {"Of a THROWER: 0 kind, 1 ARM, 2 REACH", "4 how many of his RINGS lie", "UNKNOWN; OUTSIDE"})
  private static void ofThrowerAsks0To4() {
    QuoitFeast x = dale("q0,62,31;r9;l5");
    x.hurl(1, 0);
    x.hurl(1, 0);
    int[] want = {1, 5, 6, 1, 2};
    for (int what = 0; what <= 4; what++) due("ofThrower(1, " + what + ")", x.ofThrower(1, what), want[what]);
    for (int what : new int[] {-1, 5, MIN, MAX}) due("ofThrower(1, " + what + ")", x.ofThrower(1, what), OUTSIDE);
  }

  @Says(of = "Promise 4", words = "UNKNOWN; OUTSIDE")
  private static void ofThrowerUnknownGoesFirst() {
    due("ofThrower(4, 5)", fair().ofThrower(4, 5), UNKNOWN);
    due("ofThrower(-1, -1)", fair().ofThrower(-1, -1), UNKNOWN);
    due("without a dale", new QuoitFeast().ofThrower(0, 5), UNKNOWN);
  }

  @Says(of = "Promise 4", words = "3 GIRLS that he HAS, as a set")
  private static void ofThrowerHasNoneToAllFour() {
    QuoitFeast x = dale("q0,50,50,50,50;r5;r4");
    due("none", x.ofThrower(0, 3), 0);
    for (int g = 0; g < 4; g++) {
      x.hurl(0, g);
      due("the first " + (g + 1), x.ofThrower(0, 3), (2 << g) - 1);
    }
    for (int g = 0; g < 4; g++) x.hurl(1, g);
    due("nobody loses to one farther off", x.ofThrower(0, 3), 15);
    due("who has none", x.ofThrower(1, 3), 0);
  }

  @Says(of = "Promise 4", words = "4 how many of his RINGS lie")
  private static void ofThrowerFrom0To32Rings() {
    QuoitFeast x = dale("q0,50,50,50,50;r5;r4");
    due("none", x.ofThrower(0, 4), 0);
    for (int g = 0; g < 4; g++) hurl(x, 8, 0, g);
    due("all that can lie", x.ofThrower(0, 4), 32);
    due("none of another's", x.ofThrower(1, 4), 0);
    x.lift(3);
    x.hurl(1, 3);
    due("one less", x.ofThrower(0, 4), 31);
    due("one of another's", x.ofThrower(1, 4), 1);
  }

  // ---- promise 5: freeze

  @Says(of = "Promise 5", words = "FROST becomes v (0 .. 3): what it was. OUTSIDE")
  private static void freezeTakes0To3() {
    QuoitFeast x = dale("q1,50;r5");
    due("freeze(0)", x.freeze(0), 1);
    due("freeze(3)", x.freeze(3), 0);
    for (int v : new int[] {-1, 4, MIN, MAX}) due("freeze(" + v + ")", x.freeze(v), OUTSIDE);
    due("frost", x.many(2), 3);
    due("freeze(3) again", x.freeze(3), 3);
  }

  @Says(of = "Promise 5", words = "OUTSIDE; STATE: there is no DALE")
  private static void freezeWithoutADaleIsRefused() {
    QuoitFeast x = new QuoitFeast();
    due("freeze(0)", x.freeze(0), STATE);
    due("freeze(3)", x.freeze(3), STATE);
    due("frost", x.many(2), 0);
    due("freeze(4), outside goes first", x.freeze(4), OUTSIDE);
    due("freeze(-1), outside goes first", x.freeze(-1), OUTSIDE);
  }

  @Says(of = "Promise 5", words = "FROST becomes v (0 .. 3): what it was")
  private static void freezeChangesFrostAlone() {
    leaves("there and back", Bounds::fair, x -> x.freeze(3) * 10 + x.freeze(1), 13);
  }

  // ---- promise 6: lean

  @Says(of = "Promise 6", words = "LEAN of a GIRL becomes v (0 .. 9): what it was. UNKNOWN; OUTSIDE")
  private static void leanTakes0To9() {
    QuoitFeast x = dale("q0,51,52;r5");
    due("lean(1, 9)", x.lean(1, 9), 2);
    due("lean(1, 0)", x.lean(1, 0), 9);
    for (int v : new int[] {-1, 10, MIN, MAX}) due("lean(1, " + v + ")", x.lean(1, v), OUTSIDE);
    due("hers", x.ofGirl(1, 1), 0);
    due("another's", x.ofGirl(0, 1), 1);
  }

  @Says(of = "Promise 6", words = "UNKNOWN; OUTSIDE")
  private static void leanUnknownGoesFirst() {
    due("lean(3, 10)", fair().lean(3, 10), UNKNOWN);
    due("lean(-1, -1)", fair().lean(-1, -1), UNKNOWN);
  }

  @Says(of = "Promise 6", words = "LEAN of a GIRL becomes v (0 .. 9): what it was")
  private static void leanChangesHersAlone() {
    leaves("there and back", Bounds::fair, x -> x.lean(2, 9) * 10 + x.lean(2, 2), 29);
  }

  // ---- promise 7: place

  @Says(of = "Promise 7", words = "YARDS of a GIRL become v (1 .. 9): what they were. UNKNOWN; OUTSIDE")
  private static void placeTakes1To9() {
    QuoitFeast x = dale("q0,51,62;r5");
    due("place(1, 9)", x.place(1, 9), 6);
    due("place(1, 1)", x.place(1, 1), 9);
    for (int v : new int[] {-1, 0, 10, MIN, MAX}) due("place(1, " + v + ")", x.place(1, v), OUTSIDE);
    due("hers", x.ofGirl(1, 0), 1);
    due("another's", x.ofGirl(0, 0), 5);
  }

  @Says(of = "Promise 7", words = "UNKNOWN; OUTSIDE")
  private static void placeUnknownGoesFirst() {
    due("place(3, 10)", fair().place(3, 10), UNKNOWN);
    due("place(-1, 0)", fair().place(-1, 0), UNKNOWN);
  }

  @Says(of = "Promise 7", words = "YARDS of a GIRL become v (1 .. 9): what they were")
  private static void placeChangesHersAlone() {
    leaves("there and back", Bounds::fair, x -> x.place(2, 1) * 10 + x.place(2, 9), 91);
  }

  // ---- promise 8: train

  @Says(of = "Promise 8", words = "ARM of a THROWER becomes v (1 .. 9): what it was. UNKNOWN; OUTSIDE")
  private static void trainTakes1To9() {
    QuoitFeast x = dale("q0,51;r5;s6");
    due("train(1, 9)", x.train(1, 9), 6);
    due("train(1, 1)", x.train(1, 1), 9);
    for (int v : new int[] {-1, 0, 10, MIN, MAX}) due("train(1, " + v + ")", x.train(1, v), OUTSIDE);
    due("his", x.ofThrower(1, 1), 1);
    due("another's", x.ofThrower(0, 1), 5);
  }

  @Says(of = "Promise 8", words = "UNKNOWN; OUTSIDE")
  private static void trainUnknownGoesFirst() {
    due("train(4, 10)", fair().train(4, 10), UNKNOWN);
    due("train(-1, 0)", fair().train(-1, 0), UNKNOWN);
  }

  @Says(of = "Promise 8", words = "ARM of a THROWER becomes v (1 .. 9): what it was")
  private static void trainChangesHisAlone() {
    leaves("there and back", Bounds::fair, x -> x.train(3, 1) * 10 + x.train(3, 9), 91);
  }
}
