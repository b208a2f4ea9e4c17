// Boundary cases of who has whom (==== 3), promises 14 to 17.
public final class BoundsOfPairsTest extends Bounds {
  public static void main(String[] args) throws Exception {
    run(BoundsOfPairsTest.class, "Terms 3", "Promise 14", "Promise 15", "Promise 16", "Promise 17");
  }

  private static void matched(QuoitFeast x, int girls, int together, int... row) {
    due("girls", x.match(-2), girls);
    due("measures together", x.match(-1), together);
    for (int t = 0; t <= 4; t++) due("girl of thrower " + t, x.match(t), t < row.length ? row[t] : NONE);
  }

  private static void wed(QuoitFeast x, int... row) {
    for (int t = 0; t < row.length; t++) due("weds(" + t + ")", x.weds(t), row[t]);
  }

  // ---- wins

  @Says(of = "Terms 3", words = "WINS of a THROWER: the GIRLS each of whom he HAS by one THROW at her now")
  private static void heWinsAllWithWhomNothingLies() {
    QuoitFeast x = dale("q3,10,10,10,10;s9;r1");
    due("from far off", x.wins(0), 15);
    due("from near by", x.wins(1), 15);
  }

  @Says(of = "Terms 3", words = "WINS of a THROWER: the GIRLS each of whom he HAS by one THROW at her now")
  private static void asNearAsAnothersRingIsNotEnough() {
    QuoitFeast x = dale("q0,50;r4;r6;r7");
    x.hurl(0, 0);
    due("as near", x.wins(1), 0);
    due("farther off", x.wins(2), 0);
    x.clear(0);
    x.hurl(2, 0);
    due("nearer by one", x.wins(1), 1);
  }

  @Says(of = "Terms 3", words = "WINS of a THROWER: the GIRLS each of whom he HAS by one THROW at her now")
  private static void aRingerWinsOverARinger() {
    QuoitFeast x = dale("q0,51;r4;r6;r7");
    x.hurl(0, 0);
    due("a ringer", x.wins(1), 1);
    due("no ringer", x.wins(2), 0);
  }

  @Says(of = "Terms 3", words = "WINS of a THROWER: the GIRLS each of whom he HAS by one THROW at her now")
  private static void whomHeHasHeWinsByAnyThrow() {
    QuoitFeast x = dale("q0,50;r5;r6");
    x.hurl(0, 0);
    x.train(0, 9);
    due("a far throw on his own ringer", x.wins(0), 1);
    due("not another", x.wins(1), 0);
  }

  @Says(of = "Terms 3", words = "WINS of a THROWER: the GIRLS each of whom he HAS by one THROW at her now")
  private static void onEightRingsNobodyThrows() {
    QuoitFeast x = dale("q0,50,50;r5;r9");
    hurl(x, 7, 1, 0);
    due("on seven", x.wins(0), 3);
    x.hurl(1, 0);
    due("on eight", x.wins(0), 2);
    due("on eight, who has her", x.wins(1), 2);
    x.lift(0);
    due("on seven again", x.wins(0), 3);
  }

  // ---- match

  @Says(of = "Terms 3", words = "of all ways to give THROWERS a GIRL each that he WINS")
  private static void matchGivesOnlyWhomOneWins() {
    QuoitFeast x = dale("q0,50,50;r5;r6");
    x.hurl(0, 0);
    x.hurl(0, 1);
    matched(x, 1, 0, 0, NONE);
    x.clear(1);
    matched(x, 2, 1, 0, 1);
  }

  @Says(of = "Terms 3", words = "nobody two, no GIRL twice")
  private static void matchOfOneThrowerAndOfOneGirl() {
    matched(dale("q0,50,50,50,50;r5"), 1, 0, 0);
    matched(dale("q0,50;r5;r5;r5;r5;r5"), 1, 0, 0, NONE, NONE, NONE, NONE);
    matched(dale("q0,50;r5"), 1, 0, 0);
    matched(dale("q0,10,20,30,40;r1;r2;r3;r4;r5"), 4, 0, 0, 1, 2, 3, NONE);
  }

  @Says(of = "Terms 3", words = "those with the most GIRLS; of these those with the least MEASURES together")
  private static void matchOfMoreGirlsGoesBeforeNearerOnes() {
    QuoitFeast x = dale("q3,90,90;r9;s9");
    x.hurl(0, 1);
    x.place(0, 1);
    due("whom each wins", x.wins(0), 3);
    due("whom each wins", x.wins(1), 1);
    // thrower 0 and girl 1 alone would be 0 together, thrower 1 adds 20
    matched(x, 2, 20, 1, 0);
  }

  @Says(of = "Terms 3", words = "those with the most GIRLS")
  private static void matchGivesUpTheNearerGirlForOneMore() {
    QuoitFeast x = dale("q0,50,90;r9;r6");
    x.hurl(0, 1);
    x.train(0, 5);
    due("whom each wins", x.wins(0), 3);
    due("whom each wins", x.wins(1), 1);
    // thrower 0 and girl 0 alone would be 0 together
    matched(x, 2, 5, 1, 0);
  }

  @Says(of = "Terms 3", words = "of these those with the least MEASURES together")
  private static void matchOfFourGirlsAndFiveThrowersIsFoundThroughAll() {
    QuoitFeast x = dale("q1,11,31,51,71;r6;r4;r2;r1;r1");
    for (int g = 0; g < 4; g++) {
      x.train(4, 2 * g + 1);
      x.hurl(4, g);
    }
    x.train(4, 9);
    int[] wins = {12, 6, 3, 1, 15};
    for (int t = 0; t < 5; t++) due("wins(" + t + ")", x.wins(t), wins[t]);
    // were thrower 0 given the lesser girl that he wins, thrower 4 would have to take one
    matched(x, 4, 0, 3, 2, 1, 0, NONE);
    x.train(3, 9);
    // now nobody else has a ringer for the fourth girl that is left: the cheapest is girl 3 for thrower 4
    matched(x, 4, 3, 2, 1, 0, NONE, 3);
  }

  @Says(of = "Terms 3", words = "of these those with the least MEASURES together")
  private static void theLastThrowersAndTheLastGirlsMeasuresCount() {
    matched(dale("q0,50;r4;r4;r4;r4;r9"), 1, 1, 0, NONE, NONE, NONE, NONE);
    matched(dale("q0,50;r4;r4;r4;r4;r5"), 1, 0, NONE, NONE, NONE, NONE, 0);
    matched(dale("q0,60,60,60,90;r5"), 1, 1, 0);
    matched(dale("q0,60,60,60,50;r5"), 1, 0, 3);
  }

  @Says(of = "Terms 3", words = "MATCH: of all ways to give THROWERS a GIRL each that he WINS")
  private static void matchAskedAgainIsAsAllIsNow() {
    QuoitFeast x = dale("q0,50,50,50;r4;r5;r6");
    matched(x, 3, 2, 0, 1, 2);
    hurl(x, 8, 0, 0);
    matched(x, 2, 1, 1, 2, NONE);
    read(x, "q0,50;r9");
    matched(x, 1, 4, 0);
  }

  @Says(of = "Terms 3", words = "of these those with the least MEASURES together; of several the first as a row")
  private static void matchOfLessTogetherGoesBeforeTheFirstRow() {
    matched(dale("q0,50,40;r4;r5"), 2, 0, 1, 0);
    matched(dale("q0,50;r4;r5"), 1, 0, NONE, 0);
    matched(dale("q0,40,50;r5"), 1, 0, 1);
  }

  @Says(of = "Terms 3", words = "of several the first as a row (of the GIRLS of THROWER 0, 1, ..; none is told as 9)")
  private static void matchOfSeveralTheFirstRow() {
    matched(dale("q0,50,50,50;r4;r6"), 2, 2, 0, 1);
    matched(dale("q0,50,60;r4;r4"), 2, 3, 0, 1);
  }

  @Says(of = "Terms 3", words = "none is told as 9")
  private static void noGirlIsBehindEveryGirlInARow() {
    matched(dale("q0,50;r4;r6;r4"), 1, 1, 0, NONE, NONE);
    matched(dale("q0,50,50;r9;r4;r6;r4"), 2, 2, NONE, 0, 1, NONE);
    matched(dale("q0,50,50,50,50;r5;r5;r5;r5;r5"), 4, 0, 0, 1, 2, 3, NONE);
  }

  @Says(of = "Terms 3", words = "MATCH: of all ways to give THROWERS a GIRL each that he WINS")
  private static void matchOfNobody() {
    QuoitFeast x = dale("q0,50;r5;r6");
    hurl(x, 8, 0, 0);
    matched(x, 0, 0, NONE, NONE);
    x.lift(0);
    matched(x, 1, 0, 0, NONE);
  }

  // ---- wedding

  @Says(of = "Terms 3", words = "each THROWER would rather a GIRL at whom his MEASURE is less (of several the lesser)")
  private static void weddingThrowersRatherTheNearerOfSeveralTheLesser() {
    wed(dale("q0,40,50;r5"), 1);
    wed(dale("q0,50,50,50,50;r5"), 0);
    wed(dale("q0,40,60;r5"), 0);
    wed(dale("q0,40,60;r5;r5"), 0, 1);
  }

  @Says(of = "Terms 3", words = "each GIRL a THROWER whose MEASURE at her is less (of several the lesser)")
  private static void weddingGirlsRatherTheNearerOfSeveralTheLesser() {
    wed(dale("q0,50;r4;r5"), NONE, 0);
    wed(dale("q0,50;r5;r5;r5"), 0, NONE, NONE);
    wed(dale("q0,50;r4;r6"), 0, NONE);
    wed(dale("q0,50;r6;r4"), 0, NONE);
  }

  @Says(of = "Terms 3", words = "all would rather wed than not")
  private static void weddingGoesOnUntilOneSideIsOut() {
    wed(dale("q3,10,10;s9;s9"), 0, 1);
    wed(dale("q3,10,10,10,10;s9;s8;s7;s6;r1"), NONE, 3, 2, 1, 0);
    wed(dale("q0,10,20,30,40;r4;r4"), 3, 2);
  }

  @Says(of = "Terms 3", words = "so many weddings that there are no two who would both rather each other")
  private static void weddingIsLeftForANearerOne() {
    wed(dale("q0,30;r5;r4;r3"), NONE, NONE, 0);
    // thrower 0 asks girl 0 first and is left for 1, who is left for 2: each goes on to the next
    wed(dale("q0,50,40,30;r7;r6;r5"), 2, 1, 0);
  }

  @Says(of = "Terms 3", words = "of several such the one that is best for all THROWERS")
  private static void weddingIsTheOneThatIsBestForThrowers() {
    // as both sides judge by the same measures there is never a second wedding of this sort:
    // so that it is stable, found by trying all pairs, is all that can be seen
    int[] arms = {1, 2, 3, 4, 5, 6, 7, 8, 9};
    for (int a : arms) {
      for (int b : arms) {
        QuoitFeast x = dale("q1,4" + a % 3 + ",6" + b % 2 + ",50;r" + a + ";l" + b + ";s" + (a + b) / 2);
        stable(x, "arms " + a + " and " + b);
      }
    }
  }

  private static void stable(QuoitFeast x, String of) {
    int girls = x.many(0), throwers = x.many(1);
    int[] husband = {NONE, NONE, NONE, NONE};
    for (int t = 0; t < throwers; t++) if (x.weds(t) >= 0) husband[x.weds(t)] = t;
    int blocking = 0;
    for (int t = 0; t < throwers; t++) {
      for (int g = 0; g < girls; g++) {
        int wife = x.weds(t), rival = husband[g];
        boolean he = wife == NONE || x.measure(t, g) * 10 + g < x.measure(t, wife) * 10 + wife;
        boolean she = rival == NONE || x.measure(t, g) * 10 + t < x.measure(rival, g) * 10 + rival;
        if (he && she) blocking++;
      }
    }
    due("two who would rather each other, " + of, blocking, 0);
  }

  @Says(of = "Terms 3", words = "so many weddings that there are no two who would both rather each other")
  private static void weddingAskedAgainIsAsAllIsNow() {
    QuoitFeast x = dale("q0,50,50;r9;r5");
    wed(x, 1, 0);
    x.train(0, 5);
    x.train(1, 1);
    wed(x, 0, 1);
    x.place(0, 1);
    wed(x, 1, 0);
    read(x, "q0,50;r9");
    wed(x, 0);
  }

  @Says(of = "Terms 3", words = "each GIRL a THROWER whose MEASURE at her is less (of several the lesser)")
  private static void weddingOfTheFifthThrowerAndTheFourthGirl() {
    wed(dale("q0,50;r4;r4;r4;r4;r9"), 0, NONE, NONE, NONE, NONE);
    wed(dale("q0,50;r4;r4;r4;r4;r5"), NONE, NONE, NONE, NONE, 0);
    wed(dale("q0,60,60,60,90;r5"), 0);
    wed(dale("q0,60,60,60,50;r5"), 3);
  }

  @Says(of = "Terms 3", words = "WEDDING: each THROWER would rather a GIRL at whom his MEASURE is less")
  private static void weddingAsksForNoRings() {
    QuoitFeast x = dale("q0,50,90;r5;r9");
    hurl(x, 8, 1, 0);
    wed(x, 0, 1);
  }

  // ---- even

  @Says(of = "Terms 3", words = "EVEN of two THROWERS at a GIRL: YARDS 1 .. 9 by which both have one MEASURE at her")
  private static void evenAtYards1And9AndNotBeyond() {
    due("between 1 and 2, leaning 1, from 1", dale("q0,11;r1;r2").even(0, 1, 0), 1);
    due("between 1 and 1", dale("q0,10;r1;r1").even(0, 1, 0), 1);
    due("between 8 and 10", dale("q0,10;r8;l9").even(0, 1, 0), 9);
    due("between 8 and 12 is 10", dale("q0,90;r8;s6").even(0, 1, 0), NONE);
    due("between 8 and 12, leaning 3", dale("q0,93;r8;s6").even(0, 1, 0), 9);
    due("between 8 and 12, leaning 2", dale("q0,92;r8;s6").even(0, 1, 0), NONE);
    due("between 18 and 18", dale("q0,30;s9;s9").even(0, 1, 0), 3);
  }

  @Says(of = "Terms 3", words = "those nearest to YARDS as they are, of two the lesser")
  private static void evenNearestToWhereSheStands() {
    // both are ringers from 4 to 6
    int[] want = {4, 4, 4, 4, 5, 6, 6, 6, 6};
    for (int yards = 1; yards <= 9; yards++) {
      due("from " + yards, dale("q1," + yards + "2;r4;r6").even(0, 1, 0), want[yards - 1]);
    }
    for (int yards = 1; yards <= 9; yards++) {
      due("alike, from " + yards, dale("q1," + yards + "0;r4;r4").even(0, 1, 0), yards);
    }
  }

  @Says(of = "Terms 3", words = "those nearest to YARDS as they are, of two the lesser; NONE: there are none")
  private static void evenOfAllReachesAndLeansAsTried() {
    // yards that are even lie in one stretch, so two as near never are: the answer is still looked up for all
    QuoitFeast x = null;
    for (int arms = 0; arms < 81; arms++) {
      for (int lean = 0; lean <= 9; lean++) {
        if (lean % 5 == 0) x = dale("q2,50;l" + (arms / 9 + 1) + ";s" + (arms % 9 + 1));
        x.lean(0, lean);
        for (int yards = 1; yards <= 9; yards += 2) {
          x.place(0, yards);
          due("reaches " + x.ofThrower(0, 2) + ", " + x.ofThrower(1, 2) + ", lean " + lean + ", from " + yards,
              x.even(0, 1, 0), triedEven(x.ofThrower(0, 2), x.ofThrower(1, 2), lean, yards));
        }
      }
    }
  }

  private static int triedEven(int one, int two, int lean, int from) {
    for (int d = 0; d <= 8; d++) {
      for (int yards : new int[] {from - d, from + d}) {
        int first = Math.abs(one - yards), second = Math.abs(two - yards);
        boolean alike = first == second || first <= lean && second <= lean;
        if (yards >= 1 && yards <= 9 && alike) return yards;
      }
    }
    return NONE;
  }

  @Says(of = "Terms 3", words = "NONE: there are none")
  private static void evenOfReachesAnOddWayApart() {
    due("4 and 5, leaning 0", dale("q1,50;r4;r5").even(0, 1, 0), NONE);
    due("4 and 5, leaning 1", dale("q1,51;r4;r5").even(0, 1, 0), 5);
  }

  // ---- promise 14: wins

  @Says(of = "Promise 14", words = "WINS, as a set. UNKNOWN")
  private static void winsFromNoneToAllFour() {
    QuoitFeast x = dale("q0,50,50,50,50;r5;r4");
    due("all", x.wins(1), 15);
    for (int g = 0; g < 4; g++) {
      x.hurl(0, g);
      due("all but the first " + (g + 1), x.wins(1), 15 & -(2 << g));
    }
    due("none", x.wins(1), 0);
    due("the last thrower's are known", x.wins(1) == UNKNOWN ? 1 : 0, 0);
    due("no thrower", x.wins(2), UNKNOWN);
    due("no thrower", x.wins(-1), UNKNOWN);
    leaves("wins", Bounds::fair, y -> y.wins(1), 4);
  }

  // ---- promise 15: match

  @Says(of = "Promise 15", words = {"how many GIRLS (k -2), MEASURES together (k -1), the GIRL of THROWER k (0 .. 4", "OUTSIDE; STATE: there is no DALE"})
  private static void matchIsAskedMinus2To4() {
    QuoitFeast x = dale("q0,50;r4;r5");
    for (int k : new int[] {-3, 5, MIN, MAX}) due("match(" + k + ")", x.match(k), OUTSIDE);
    due("match(-2)", x.match(-2), 1);
    due("match(-1)", x.match(-1), 0);
    due("match(0)", x.match(0), NONE);
    due("match(1)", x.match(1), 0);
    due("match(4)", x.match(4), NONE);
  }

  @Says(of = "Promise 15", words = "NONE: none, there is no such THROWER")
  private static void matchOfNoSuchThrowerIsNone() {
    QuoitFeast one = dale("q0,50,50,50,50;r4");
    for (int k = 1; k <= 4; k++) due("match(" + k + ")", one.match(k), NONE);
    QuoitFeast five = dale("q0,50;r4;r4;r4;r4;r5");
    due("match(4)", five.match(4), 0);
    due("match(3)", five.match(3), NONE);
    read(five, "q0,50;r4");
    due("match(4) of one thrower", five.match(4), NONE);
  }

  @Says(of = "Promise 15", words = "OUTSIDE; STATE: there is no DALE")
  private static void matchWithoutADaleIsRefused() {
    for (int k = -2; k <= 4; k++) due("match(" + k + ")", new QuoitFeast().match(k), STATE);
    due("match(-3), outside goes first", new QuoitFeast().match(-3), OUTSIDE);
    due("match(5), outside goes first", new QuoitFeast().match(5), OUTSIDE);
  }

  @Says(of = "Promise 15", words = "MATCH: how many GIRLS (k -2), MEASURES together (k -1)")
  private static void matchChangesNothing() {
    for (int k = -2; k <= 4; k++) {
      int asks = k;
      int[] want = {2, 2, 1, NONE, 2, NONE, NONE};
      leaves("match(" + k + ")", Bounds::fair, x -> x.match(asks), want[k + 2]);
    }
  }

  @Says(of = "Promise 15", words = "MEASURES together (k -1)")
  private static void matchOfTheMostMeasuresTogether() {
    due("four times 20", dale("q3,10,10,10,10;s9;s9;s9;s9").match(-1), 80);
    due("four girls", dale("q3,10,10,10,10;s9;s9;s9;s9").match(-2), 4);
  }

  // ---- promise 16: weds

  @Says(of = "Promise 16", words = "WEDDING: the GIRL of a THROWER; NONE. UNKNOWN")
  private static void wedsOneWhoIsLeftOverNone() {
    QuoitFeast x = dale("q0,50,50,50,50;r5;r5;r5;r5;r5");
    for (int t = 0; t < 4; t++) due("weds(" + t + ")", x.weds(t), t);
    due("weds(4)", x.weds(4), NONE);
    due("weds(5)", x.weds(5), UNKNOWN);
    due("weds(-1)", x.weds(-1), UNKNOWN);
    QuoitFeast y = dale("q0,50;r5");
    due("one of one", y.weds(0), 0);
    due("no second", y.weds(1), UNKNOWN);
    leaves("weds", Bounds::fair, z -> z.weds(3), NONE);
  }

  // ---- promise 17: even

  @Says(of = "Promise 17", words = "UNKNOWN: either THROWER, both the same, GIRL")
  private static void evenOfOneAndTheSameIsUnknown() {
    QuoitFeast x = dale("q0,50;r5;r5");
    due("even(0, 0, 0)", x.even(0, 0, 0), UNKNOWN);
    due("even(1, 1, 0)", x.even(1, 1, 0), UNKNOWN);
    due("two who are alike", x.even(0, 1, 0), 5);
    due("two who are alike", x.even(1, 0, 0), 5);
    due("even(-1, -1, 0)", x.even(-1, -1, 0), UNKNOWN);
  }

  @Says(of = "Promise 17", words = "UNKNOWN: either THROWER, both the same, GIRL")
  private static void evenOfNobodyOrAtNobody() {
    QuoitFeast x = dale("q0,50;r5;r5");
    due("the first", x.even(2, 0, 0), UNKNOWN);
    due("the other", x.even(0, 2, 0), UNKNOWN);
    due("the first", x.even(-1, 0, 0), UNKNOWN);
    due("the other", x.even(0, -1, 0), UNKNOWN);
    due("the girl", x.even(0, 1, 1), UNKNOWN);
    due("the girl", x.even(0, 1, -1), UNKNOWN);
  }

  @Says(of = "Promise 17", words = "EVEN; NONE. UNKNOWN")
  private static void evenLeavesHerWhereSheStands() {
    leaves("even", Bounds::fair, x -> x.even(0, 2, 2), 6);
    leaves("even, none", Bounds::fair, x -> x.even(0, 1, 1), NONE);
  }
}
