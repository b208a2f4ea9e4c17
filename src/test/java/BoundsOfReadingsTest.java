// Boundary cases of how near they came (==== 4), promises 18 to 23.
public final class BoundsOfReadingsTest extends Bounds {
  private static final int ALL_LEANS = 1023, ALL_ARMS = 1022, ALL_KINDS = 7;

  public static void main(String[] args) throws Exception {
    run(BoundsOfReadingsTest.class, "Terms 4", "Promise 18", "Promise 19", "Promise 20", "Promise 21",
        "Promise 22", "Promise 23");
  }

  /** A dale with one reading of thrower 0 at girl 0. */
  private static QuoitFeast read(String text, int v) {
    QuoitFeast x = dale(text);
    due("reading of " + v, x.reading(0, 0, v), 0);
    return x;
  }

  private static void share(QuoitFeast x, int t, int upper, int lower) {
    due("upper of thrower " + t, x.odds(t, 0, 0), upper);
    due("lower of thrower " + t, x.odds(t, 0, 1), lower);
  }

  // ---- readings

  @Says(of = "Terms 4", words = "READINGS, 8 at most, numbered by how many there are")
  private static void eightReadingsAtMostNumberedFrom0() {
    QuoitFeast x = dale("q0,50;r5");
    for (int r = 0; r < 8; r++) due("reading " + r, x.reading(0, 0, 0), r);
    due("a ninth", x.reading(0, 0, 0), FULL);
    due("readings", x.many(4), 8);
  }

  @Says(of = "Terms 4", words = "numbered by how many there are")
  private static void numbersGoOnFromHowManyAreLeft() {
    QuoitFeast x = dale("q0,50;r5");
    for (int r = 0; r < 8; r++) x.reading(0, 0, 0);
    x.back(3);
    due("after five are left", x.reading(0, 0, 0), 5);
    x.back(6);
    due("after none is left", x.reading(0, 0, 0), 0);
  }

  @Says(of = "Terms 4", words = "a THROWER's MEASURE at a GIRL is v (as FROST, YARDS are)")
  private static void readingsAreJudgedByFrostAsItIs() {
    QuoitFeast x = read("q1,50;r4", 2);
    due("in frost 1", x.arms(0), 1 << 4 | 1 << 6);
    x.freeze(2);
    due("in frost 2", x.arms(0), 0);
    x.freeze(0);
    due("in frost 0", x.arms(0), 1 << 3 | 1 << 7);
  }

  @Says(of = "Terms 4", words = "a THROWER's MEASURE at a GIRL is v (as FROST, YARDS are)")
  private static void readingsAreJudgedByYardsAsTheyAre() {
    QuoitFeast x = read("q1,50;r4", 2);
    x.place(0, 1);
    due("at 1 yard", x.arms(0), 1 << 2);
    x.place(0, 9);
    due("at 9 yards", x.arms(0), 1 << 8);
  }

  @Says(of = "Terms 4", words = "All that follows: in place of what it is alone, by which all READINGS are so")
  private static void whatIsAskedForStandsInPlaceOfWhatItIs() {
    QuoitFeast x = read("q1,50;r9", 0);
    due("leans, he is 4 off", x.leans(0), ALL_LEANS & -(1 << 4));
    x.lean(0, 9);
    due("leans, whatever hers is", x.leans(0), ALL_LEANS & -(1 << 4));
    x.lean(0, 0);
    due("arms", x.arms(0), 1 << 5);
    x.train(0, 5);
    due("arms, whatever his is", x.arms(0), 1 << 5);
  }

  @Says(of = "Terms 4", words = "in place of what it is alone, by which all READINGS are so")
  private static void allElseStaysAsItIs() {
    QuoitFeast x = dale("q0,50,70;r5;r7");
    x.reading(0, 0, 0);
    x.reading(1, 1, 0);
    due("leans of girl 1", x.leans(1), ALL_LEANS);
    due("arms of thrower 1", x.arms(1), 1 << 7);
    due("kinds of thrower 1", x.kinds(1), 1);
    x.train(0, 6);
    due("leans of girl 1, another's reading is not so", x.leans(1), 0);
    due("arms of thrower 1, another's reading is not so", x.arms(1), 0);
    due("kinds of thrower 1, another's reading is not so", x.kinds(1), 0);
    due("leans of girl 0", x.leans(0), ALL_LEANS - 1);
    due("arms of thrower 0", x.arms(0), 1 << 5);
  }

  @Says(of = "Terms 4", words = "by which all READINGS are so")
  private static void withoutReadingsAllAreSo() {
    QuoitFeast x = dale("q0,50;s5");
    due("leans", x.leans(0), ALL_LEANS);
    due("arms", x.arms(0), ALL_ARMS);
    due("kinds", x.kinds(0), ALL_KINDS);
  }

  @Says(of = "Terms 4", words = "by which all READINGS are so")
  private static void readingsThatContradictLeaveNothing() {
    QuoitFeast x = read("q0,50;r5", 0);
    x.reading(0, 0, 1);
    due("leans", x.leans(0), 0);
    due("arms", x.arms(0), 0);
    due("kinds", x.kinds(0), 0);
    x.back(1);
    due("arms without the second", x.arms(0), 1 << 5);
  }

  @Says(of = "Terms 4", words = "by which all READINGS are so")
  private static void theEighthReadingCountsAsTheFirstDoes() {
    for (int odd = 0; odd < 8; odd++) {
      QuoitFeast x = dale("q0,50;r5");
      for (int r = 0; r < 8; r++) x.reading(0, 0, r == odd ? 1 : 0);
      due("arms, reading " + odd + " is another", x.arms(0), 0);
      due("leans, reading " + odd + " is another", x.leans(0), 0);
      due("kinds, reading " + odd + " is another", x.kinds(0), 0);
    }
  }

  @Says(of = "Terms 4", words = "LEANS of a GIRL: 0 .. 9")
  private static void leansFrom0To9() {
    due("off 1 and no ringer: 0 alone", read("q0,50;r4", 1).leans(0), 1);
    due("off 9 and a ringer: 9 alone", read("q0,10;l9", 0).leans(0), 1 << 9);
    due("off 9 and no ringer: all but 9", read("q0,10;l9", 9).leans(0), ALL_LEANS - (1 << 9));
    due("off 0 and a ringer: all", read("q0,50;r5", 0).leans(0), ALL_LEANS);
    due("off 10 and a ringer: none", read("q0,20;s6", 0).leans(0), 0);
    due("off 10 and no ringer: all", read("q0,20;s6", 10).leans(0), ALL_LEANS);
  }

  @Says(of = "Terms 4", words = "ARMS of a THROWER: 1 .. 9")
  private static void armsFrom1To9() {
    due("right, at 1 yard", read("q0,10;r5", 0).arms(0), 1 << 1);
    due("right, at 9 yards", read("q0,90;r5", 0).arms(0), 1 << 9);
    due("right, at 9 yards, 1 off: 10 is no arm", read("q0,90;r5", 1).arms(0), 1 << 8);
    due("right, at 1 yard, 1 off: 0 is no arm", read("q0,10;r5", 1).arms(0), 1 << 2);
    due("left, at 1 yard: 0 is no arm", read("q0,10;l5", 0).arms(0), 0);
    due("left, at 9 yards, 1 off", read("q0,90;l5", 1).arms(0), 1 << 7 | 1 << 9);
    due("stranger, at 1 yard, 17 off", read("q0,10;s5", 17).arms(0), 1 << 9);
    due("stranger, at 9 yards: none is even", read("q0,90;s5", 0).arms(0), 0);
    due("stranger, at 9 yards, leaning 1", read("q0,91;s5", 0).arms(0), 1 << 4 | 1 << 5);
    due("leaning 9: all", read("q0,59;r5", 0).arms(0), ALL_ARMS);
  }

  @Says(of = "Terms 4", words = "KINDS of a THROWER: 0 .. 2; as sets")
  private static void kindsFrom0To2() {
    due("reach 9", read("q0,90;r9", 0).kinds(0), 1);
    due("reach 10", read("q0,90;r9", 1).kinds(0), 2);
    due("reach 18", read("q0,90;r9", 9).kinds(0), 4);
    due("with an arm of 1 two kinds reach 2", read("q0,20;r1", 0).kinds(0), 6);
    due("no kind", read("q0,90;r9", 2).kinds(0), 0);
    due("each kind", read("q0,99;r9", 0).kinds(0), ALL_KINDS);
    due("whatever his is", read("q0,90;s9", 0).kinds(0), 1);
    due("whatever his is", read("q0,90;l9", 9).kinds(0), 4);
  }

  // ---- odds

  @Says(of = "Terms 4", words = "ODDS of a THROWER and a GIRL: if his REACH is 1 less, as it is, 1 more, all alike")
  private static void oddsOfEachOfTheThreeReachesAlone() {
    QuoitFeast x = dale("q0,50;r4;r6;r4;r5;r9");
    x.hurl(0, 0);
    x.train(0, 9);
    // a ring of measure 1 lies: only a ringer has her
    share(x, 1, 1, 3);
    share(x, 2, 1, 3);
    share(x, 3, 1, 3);
    share(x, 4, 0, 1);
  }

  @Says(of = "Terms 4", words = "if his REACH is 1 less, as it is, 1 more, all alike")
  private static void oddsOfTwoOfTheThreeReaches() {
    QuoitFeast x = dale("q0,50;r3;r6;r4;r5;r7");
    x.hurl(0, 0);
    // a ring of measure 2 lies: a ringer or one of measure 1 has her
    share(x, 1, 2, 3);
    share(x, 2, 2, 3);
    share(x, 3, 1, 1);
    share(x, 4, 1, 3);
  }

  @Says(of = "Terms 4", words = "the share by which he HAS her by one THROW now (0, if eight RINGS lie with her)")
  private static void oddsOnSevenAndOnEightRings() {
    QuoitFeast x = dale("q0,51;r5;r9");
    hurl(x, 7, 1, 0);
    share(x, 0, 1, 1);
    share(x, 1, 1, 1);
    x.hurl(1, 0);
    share(x, 0, 0, 1);
    share(x, 1, 0, 1);
    x.lift(0);
    share(x, 0, 1, 1);
  }

  @Says(of = "Terms 4", words = "if his REACH is 1 less, as it is, 1 more, all alike")
  private static void oddsOfAReachOf0AndOf19() {
    QuoitFeast least = dale("q0,10;r1;r2");
    least.hurl(1, 0);
    // 0 is 1 off as 2 is, and a ring of measure 1 lies
    share(least, 0, 1, 3);
    QuoitFeast most = dale("q0,19;s9;r9;s9");
    most.lean(0, 0);
    most.hurl(2, 0);
    // 17 off lies; 16, 17, 18 off are thrown
    share(most, 0, 1, 3);
  }

  @Says(of = "Terms 4", words = "the share by which he HAS her by one THROW now")
  private static void oddsOfOneWhoHasHerAlready() {
    QuoitFeast x = dale("q0,50;r5;r9");
    x.hurl(0, 0);
    x.train(0, 9);
    share(x, 0, 1, 1);
    share(x, 1, 0, 1);
  }

  // ---- promise 18: reading

  @Says(of = "Promise 18", words = "OUTSIDE: v (0 .. 20)")
  private static void readingOf0To20() {
    QuoitFeast x = dale("q3,10;s9");
    due("reading of 0", x.reading(0, 0, 0), 0);
    x.back(1);
    due("reading of 20", x.reading(0, 0, 20), 0);
    due("which is so", x.arms(0), 1 << 9);
    for (int v : new int[] {-1, 21, MIN, MAX}) due("reading of " + v, x.reading(0, 0, v), OUTSIDE);
    due("readings", x.many(4), 1);
  }

  @Says(of = "Promise 18", words = "UNKNOWN: THROWER, GIRL; OUTSIDE: v (0 .. 20); FULL")
  private static void readingTellsTheFirstInThisOrder() {
    QuoitFeast x = dale("q0,50;r5");
    for (int r = 0; r < 8; r++) x.reading(0, 0, 0);
    due("no thrower, v, full", x.reading(1, 0, 21), UNKNOWN);
    due("no girl, v, full", x.reading(0, 1, -1), UNKNOWN);
    due("no thrower, full", x.reading(-1, 0, 0), UNKNOWN);
    due("v, full", x.reading(0, 0, 21), OUTSIDE);
    due("v, full", x.reading(0, 0, -1), OUTSIDE);
    due("full", x.reading(0, 0, 20), FULL);
    due("no girl, v", dale("q0,50;r5").reading(0, 1, 21), UNKNOWN);
  }

  @Says(of = "Promise 18", words = "FULL")
  private static void readingNineIsRefusedAndChangesNothing() {
    Maker eight = () -> {
      QuoitFeast x = dale("q0,50;r5");
      for (int r = 0; r < 8; r++) x.reading(0, 0, 0);
      return x;
    };
    leaves("a ninth", eight, x -> x.reading(0, 0, 1), FULL);
    QuoitFeast x = eight.make();
    x.back(1);
    due("an eighth again", x.reading(0, 0, 0), 7);
  }

  @Says(of = "Promise 18", words = "A READING: its number")
  private static void readingOfWhatIsNotSoIsTaken() {
    QuoitFeast x = dale("q3,50;r5");
    due("a measure that can never be", x.reading(0, 0, 1), 0);
    due("arms", x.arms(0), 0);
    due("no ring is thrown by it", x.many(3), 0);
  }

  // ---- promise 19: back

  @Says(of = "Promise 19", words = "The last n READINGS (0 .. as many as there are) are taken back: how many are left. OUTSIDE")
  private static void backOf0ToAsManyAsThereAre() {
    QuoitFeast x = dale("q0,50;r5");
    for (int r = 0; r < 8; r++) x.reading(0, 0, 0);
    for (int n : new int[] {-1, 9, MIN, MAX}) due("back(" + n + ")", x.back(n), OUTSIDE);
    due("back(0)", x.back(0), 8);
    due("back(8)", x.back(8), 0);
    due("back(0) of none", x.back(0), 0);
    due("back(1) of none", x.back(1), OUTSIDE);
    due("back(-1) of none", x.back(-1), OUTSIDE);
  }

  @Says(of = "Promise 19", words = "The last n READINGS (0 .. as many as there are) are taken back")
  private static void backTakesTheLastNotTheFirst() {
    QuoitFeast x = dale("q0,50;r5");
    x.reading(0, 0, 1);
    x.reading(0, 0, 2);
    x.reading(0, 0, 3);
    due("back(2)", x.back(2), 1);
    due("the first is left", x.arms(0), 1 << 4 | 1 << 6);
  }

  @Says(of = "Promise 19", words = "(0 .. as many as there are)")
  private static void backWithoutADale() {
    due("back(0)", new QuoitFeast().back(0), 0);
    due("back(1)", new QuoitFeast().back(1), OUTSIDE);
  }

  @Says(of = "Promise 19", words = "The last n READINGS (0 .. as many as there are) are taken back: how many are left")
  private static void backTakesBackJustWhatReadingDid() {
    leaves("back of none", Bounds::fair, x -> x.back(0), 3);
    leaves("a reading and back", Bounds::fair, x -> x.reading(2, 0, 9) * 10 + x.back(1), 33);
  }

  // ---- promises 20 to 22: leans, arms, kinds

  @Says(of = "Promise 20", words = "LEANS, as a set. UNKNOWN")
  private static void leansOfNoSuchGirl() {
    QuoitFeast x = dale("q0,50,50;r5;r5;r5");
    due("the last girl", x.leans(1), ALL_LEANS);
    for (int g : new int[] {-1, 2, MIN, MAX}) due("leans(" + g + ")", x.leans(g), UNKNOWN);
    leaves("leans", Bounds::fair, y -> y.leans(1), 3);
  }

  @Says(of = "Promise 21", words = "ARMS, as a set. UNKNOWN")
  private static void armsOfNoSuchThrower() {
    QuoitFeast x = dale("q0,50,50,50;r5;r5");
    due("the last thrower", x.arms(1), ALL_ARMS);
    for (int t : new int[] {-1, 2, MIN, MAX}) due("arms(" + t + ")", x.arms(t), UNKNOWN);
    leaves("arms", Bounds::fair, y -> y.arms(1), 1 << 4);
  }

  @Says(of = "Promise 22", words = "KINDS, as a set. UNKNOWN")
  private static void kindsOfNoSuchThrower() {
    QuoitFeast x = dale("q0,50,50,50;r5;r5");
    due("the last thrower", x.kinds(1), ALL_KINDS);
    for (int t : new int[] {-1, 2, MIN, MAX}) due("kinds(" + t + ")", x.kinds(t), UNKNOWN);
    leaves("kinds", Bounds::fair, y -> y.kinds(1), 2);
  }

  // ---- promise 23: odds

  @Says(of = "Promise 23", words = "ODDS (which 0 the upper, 1 the lower number). LOST: UNKNOWN: THROWER, GIRL; OUTSIDE")
  private static void oddsAreAsked0And1() {
    QuoitFeast x = dale("q0,50;r3;r6");
    x.hurl(0, 0);
    due("upper", x.odds(1, 0, 0), 2);
    due("lower", x.odds(1, 0, 1), 3);
    for (int which : new int[] {-1, 2, MIN, MAX}) due("which " + which, x.odds(1, 0, which), LOST);
  }

  @Says(of = "Promise 23", words = "LOST: UNKNOWN: THROWER, GIRL; OUTSIDE")
  private static void oddsOfNobodyOrAtNobody() {
    QuoitFeast x = dale("q0,50;r5");
    due("odds(0, 0, 1)", x.odds(0, 0, 1), 1);
    for (int number : new int[] {-1, 1, MIN, MAX}) {
      due("thrower " + number, x.odds(number, 0, 0), LOST);
      due("girl " + number, x.odds(0, number, 0), LOST);
    }
    due("without a dale", new QuoitFeast().odds(0, 0, 0), LOST);
  }

  @Says(of = "Promise 23", words = "ODDS (which 0 the upper, 1 the lower number)")
  private static void oddsThrowNothing() {
    leaves("odds", Bounds::fair, x -> x.odds(3, 2, 0), 1);
    leaves("odds on eight rings", Bounds::fair, x -> x.odds(1, 0, 1), 1);
  }
}
