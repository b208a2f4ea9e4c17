// Boundary cases of rings and of feasts that are told (==== 2), promises 9 to 13.
public final class BoundsOfRingsTest extends Bounds {
  public static void main(String[] args) throws Exception {
    run(BoundsOfRingsTest.class, "Terms 2", "Promise 9", "Promise 10", "Promise 11", "Promise 12", "Promise 13");
  }

  // ---- rings that lie

  @Says(of = "Terms 2", words = "A THROW at a GIRL: a RING of that MEASURE lies with her, on all others (eight at most)")
  private static void eightRingsLieAtMost() {
    QuoitFeast x = dale("q0,50,50;r4;r5");
    for (int r = 1; r <= 8; r++) {
      due("throw " + r, x.hurl(0, 0), 1);
      due("rings", x.ofGirl(0, 2), r);
    }
    due("throw 9", x.hurl(1, 0), FULL);
    due("rings", x.ofGirl(0, 2), 8);
    due("another girl's are her own", x.hurl(1, 1), 0);
  }

  @Says(of = "Terms 2", words = "Who HAS her is who threw the last of her RINGERS, if there are any")
  private static void theLastRingerHasHerThoughOthersLieOnIt() {
    QuoitFeast x = dale("q0,51;r4;r5;r9");
    x.hurl(0, 0);
    due("the only ringer", x.ofGirl(0, 3), 0);
    x.hurl(1, 0);
    due("the last of two", x.ofGirl(0, 3), 1);
    x.hurl(2, 0);
    due("one that is no ringer on it", x.ofGirl(0, 3), 1);
    x.hurl(0, 0);
    due("a ringer on that", x.ofGirl(0, 3), 0);
    x.lift(0);
    x.lift(0);
    x.lift(0);
    due("down to the first", x.ofGirl(0, 3), 0);
  }

  @Says(of = "Terms 2", words = "if there are any; else who threw the RING of the least MEASURE")
  private static void aRingerGoesBeforeNearerOnesOfNoRinger() {
    QuoitFeast x = dale("q0,50;r4;r8;r5");
    x.hurl(1, 0);
    due("off 3", x.ofGirl(0, 3), 1);
    x.hurl(0, 0);
    due("off 1", x.ofGirl(0, 3), 0);
    x.hurl(1, 0);
    due("off 3 on it", x.ofGirl(0, 3), 0);
    x.hurl(2, 0);
    due("a ringer", x.ofGirl(0, 3), 2);
    x.hurl(0, 0);
    due("off 1 on it", x.ofGirl(0, 3), 2);
  }

  @Says(of = "Terms 2", words = "the RING of the least MEASURE, of several the first that was thrown")
  private static void ofSeveralLeastTheFirstThrown() {
    QuoitFeast x = dale("q0,50;r4;r6;r3");
    x.hurl(2, 0);
    x.hurl(1, 0);
    x.hurl(0, 0);
    due("1 before 0", x.ofGirl(0, 3), 1);
    x.clear(0);
    x.hurl(0, 0);
    x.hurl(1, 0);
    x.hurl(0, 0);
    due("0 before 1", x.ofGirl(0, 3), 0);
  }

  @Says(of = "Terms 2", words = "nobody (NONE), if no RING lies")
  private static void nobodyHasHerIfNoRingLies() {
    QuoitFeast x = dale("q0,50;r4");
    due("at first", x.ofGirl(0, 3), NONE);
    x.hurl(0, 0);
    x.lift(0);
    due("lifted", x.ofGirl(0, 3), NONE);
    hurl(x, 8, 0, 0);
    x.clear(0);
    due("cleared", x.ofGirl(0, 3), NONE);
    due("he has none", x.ofThrower(0, 3), 0);
  }

  @Says(of = "Terms 2", words = "The last RING is LIFTED; all are CLEARED")
  private static void theLastIsLiftedAllAreCleared() {
    QuoitFeast x = dale("q0,51,51;r4;r5;r9");
    for (int g = 0; g < 2; g++) for (int t = 0; t < 3; t++) x.hurl(t, g);
    due("lift", x.lift(0), 2);
    due("two are left", x.ofGirl(0, 2), 2);
    due("the other girl's stay", x.ofGirl(1, 2), 3);
    due("clear", x.clear(1), 3);
    due("none is left", x.ofGirl(1, 2), 0);
    due("the other girl's stay", x.ofGirl(0, 2), 2);
  }

  /** Girl 0: a ring of measure 4 by thrower 1, one of 3 by thrower 0, none a ringer; girl 1: a ringer by 0. */
  private static QuoitFeast lying() {
    QuoitFeast x = dale("q2,50,40;r4;r7");
    x.hurl(1, 0);
    x.hurl(0, 0);
    x.hurl(0, 1);
    return x;
  }

  private static void lieAsBefore(QuoitFeast x) {
    due("who has girl 0", x.ofGirl(0, 3), 0);
    due("by its measure", x.ofGirl(0, 4), 3);
    due("who has girl 1", x.ofGirl(1, 3), 0);
    due("a ringer still", x.ofGirl(1, 5), 1);
    x.lift(0);
    due("the one beneath", x.ofGirl(0, 4), 4);
  }

  @Says(of = "Terms 2", words = "(What lies keeps its MEASURE, whatever becomes of her, of him.)")
  private static void whatLiesKeepsItsMeasureAsSheMoves() {
    QuoitFeast x = lying();
    x.place(0, 7);
    x.place(1, 9);
    lieAsBefore(x);
  }

  @Says(of = "Terms 2", words = "(What lies keeps its MEASURE, whatever becomes of her, of him.)")
  private static void whatLiesKeepsItsMeasureAsSheLeans() {
    QuoitFeast x = lying();
    x.lean(0, 9);
    due("nothing with her becomes a ringer", x.ofGirl(0, 5), 0);
    lieAsBefore(x);
  }

  @Says(of = "Terms 2", words = "(What lies keeps its MEASURE, whatever becomes of her, of him.)")
  private static void whatLiesKeepsItsMeasureAsHeIsTrained() {
    QuoitFeast x = lying();
    x.train(0, 9);
    x.train(1, 5);
    lieAsBefore(x);
  }

  @Says(of = "Terms 2", words = "(What lies keeps its MEASURE, whatever becomes of her, of him.)")
  private static void whatLiesKeepsItsMeasureInOtherFrost() {
    QuoitFeast x = lying();
    x.freeze(0);
    lieAsBefore(x);
  }

  // ---- feasts

  @Says(of = "Terms 2", words = "A FEAST told: a row of pairs, one behind another")
  private static void aFeastTellsPairsInTheirOrder() {
    QuoitFeast x = dale("q1,50;r4;r6;r5");
    due("of two alike the first", feast(x, 10, 0, 0, 1, 0), 0);
    due("of two alike the first", feast(x, 10, 1, 0, 0, 0), 1);
    due("of two ringers the last", feast(x, 10, 0, 0, 2, 0, 1, 0), 2);
    due("thrown, then cleared", feast(x, 0, 0, 0, 0, 11), 0);
    due("cleared, then thrown", feast(x, 0, 0, 11, 0, 0), 1);
    due("the later frost", feast(x, 4, 2, 10, 3, 10), 3);
    due("the later frost", feast(x, 4, 3, 10, 2, 10), 2);
    due("frost ahead of the first: he is farther", feast(x, 10, 3, 10, 0, 0, 1, 10, 1, 0), 1);
    due("frost behind the first", feast(x, 10, 1, 10, 0, 0, 3, 10, 1, 0), 0);
    // cells 1 2 3 4: frost of the first pair is the second of no pair
    row(x, 2, 2, 9, 1, 10, 2, 10, 9);
    due("pairs do not overlap", x.feast(2, 2, 1, 2, 4), 2);
    due("one pair alone", x.feast(2, 2, 1, 1, 4), 1);
  }

  @Says(of = "Terms 2", words = "from how all is now (nothing is changed)")
  private static void aFeastChangesNothing() {
    for (int what : new int[] {0, 1, 2, 3, 4, 10, 11, 12, 13}) {
      int[] want = {2, NONE, 0, 0, 3};
      leaves("feast, what " + what, Bounds::fair, x -> x.feast(2, 2, 0, 3, what),
          what == 10 ? 1 : what == 12 ? 0 : what > 10 ? NONE : want[what]);
    }
    leaves("feast with a first wrong", () -> {
      QuoitFeast x = fair();
      row(x, 2, 2, 3, 10, 1, 11, 2, 2, 0, 0);
      return x;
    }, x -> x.feast(2, 2, 0, 4, 0), -103);
  }

  @Says(of = "Terms 2", words = "from how all is now (nothing is changed)")
  private static void aFeastBeginsWithWhatLiesNow() {
    QuoitFeast x = dale("q2,50,40;r4;r7");
    due("nobody has any", feast(x, 0), 0);
    x.hurl(1, 0);
    due("one is had", feast(x, 0), 1);
    due("by him", feast(x, 10), 1);
    due("frost as it is", feast(x, 4), 2);
    due("a nearer throw", feast(x, 10, 0, 0), 0);
    due("is not there in the next feast", feast(x, 10), 1);
    x.freeze(3);
    due("frost as it is", feast(x, 4), 3);
    due("in more frost only as near", feast(x, 10, 0, 0), 1);
  }

  @Says(of = "Terms 2", words = "a THROWER and 0 .. 3: a THROW at that GIRL")
  private static void aFeastThrowsAtGirls0To3() {
    QuoitFeast x = dale("q0,50,50,50,50;r4;r5;r4;r4;r4");
    for (int g = 0; g < 4; g++) {
      due("at girl " + g, feast(x, 10 + g, 4, g), 4);
      due("at nobody else", feast(x, 0, 4, g), 1);
    }
  }

  @Says(of = "Terms 2", words = "0 .. 3 and 10: FROST becomes that")
  private static void aFeastsFrostIs0To3AndCountsFromThere() {
    QuoitFeast x = dale("q1,50;r4;r3");
    due("frost 0", feast(x, 4, 0, 10), 0);
    due("frost 3", feast(x, 4, 3, 10), 3);
    due("the last frost", feast(x, 4, 3, 10, 2, 10), 2);
    due("off 1 in frost 1, off 2 in none: as near", feast(x, 10, 0, 0, 0, 10, 1, 0), 0);
    due("off 1 in frost 3, off 2 in none", feast(x, 10, 3, 10, 0, 0, 0, 10, 1, 0), 1);
  }

  @Says(of = "Terms 2", words = "a GIRL and 11: she is CLEARED")
  private static void aFeastClearsWhatLayBeforeToo() {
    QuoitFeast x = dale("q1,50,50;r5;r3");
    x.hurl(0, 0);
    x.hurl(0, 1);
    due("cleared", feast(x, 10, 0, 11), NONE);
    due("the other is not", feast(x, 11, 0, 11), 0);
    due("cleared and thrown at", feast(x, 10, 0, 11, 1, 0), 1);
    due("thrown at and cleared", feast(x, 10, 1, 0, 0, 11), NONE);
    due("one with whom nothing lies can be cleared", feast(x, 1, 0, 11, 0, 11), NONE);
  }

  @Says(of = "Terms 2", words = "FIRST WRONG: the first act that can't be (there is no such GIRL, eight RINGS lie with her)")
  private static void aThrowAtNoSuchGirlIsWrong() {
    for (int girls = 1; girls <= 4; girls++) {
      QuoitFeast x = dale("q1,50,50,50,50".substring(0, 2 + 3 * girls) + ";r5");
      for (int g = 0; g < 4; g++) due(girls + " girls, at " + g, feast(x, 1, 0, g), g < girls ? NONE : 0);
    }
  }

  @Says(of = "Terms 2", words = "FIRST WRONG: the first act that can't be (there is no such GIRL, eight RINGS lie with her)")
  private static void noSuchGirlCanBeCleared() {
    for (int girls = 1; girls <= 4; girls++) {
      QuoitFeast x = dale("q1,50,50,50,50".substring(0, 2 + 3 * girls) + ";r5");
      for (int g = 0; g < 4; g++) due(girls + " girls, cleared " + g, feast(x, 1, g, 11), g < girls ? NONE : 0);
    }
  }

  @Says(of = "Terms 2", words = "FIRST WRONG: the first act that can't be (there is no such GIRL, eight RINGS lie with her)")
  private static void aThrowOnEightRingsIsWrong() {
    QuoitFeast x = dale("q1,50,50;r5");
    due("eight throws", feast(x, 1, pairs(8, 0, 0)), NONE);
    due("nine throws", feast(x, 1, pairs(9, 0, 0)), 8);
    hurl(x, 7, 0, 0);
    due("seven lie, one throw", feast(x, 1, 0, 0), NONE);
    due("seven lie, two throws", feast(x, 1, 0, 0, 0, 0), 1);
    x.hurl(0, 0);
    due("eight lie, one throw", feast(x, 1, 0, 0), 0);
    due("eight lie with another", feast(x, 1, 0, 1), NONE);
    due("eight lie and are cleared", feast(x, 1, 0, 11, 0, 0), NONE);
    due("eight lie, cleared, nine throws", feast(x, 1, 0, 11, 0, 0, 0, 0, 0, 0, 0, 0, 0, 0, 0, 0, 0, 0, 0, 0, 0, 0), 9);
  }

  @Says(of = "Terms 2", words = "FIRST WRONG: the first act that can't be")
  private static void ofSeveralWrongActsTheFirst() {
    QuoitFeast x = dale("q1,50;r5");
    due("acts count, not cells", feast(x, 1, 0, 0, 0, 10, 0, 1, 0, 2), 2);
    due("the first act", feast(x, 1, 0, 3, 3, 11), 0);
    int[] twenty = pairs(20, 0, 10);
    twenty[39] = 1;
    due("the twentieth act", feast(x, 1, twenty), 19);
    due("the twentieth act", feast(x, 0, twenty), -119);
  }

  // ---- promise 9: measure

  @Says(of = "Promise 9", words = "MEASURE of a THROW as it would be. UNKNOWN: THROWER, GIRL")
  private static void measureThrowsNothing() {
    leaves("measure", Bounds::fair, x -> x.measure(3, 2), 0);
    leaves("measure with eight rings", Bounds::fair, x -> x.measure(3, 0), 5);
  }

  @Says(of = "Promise 9", words = "UNKNOWN: THROWER, GIRL")
  private static void measureOfNobodyOrAtNobody() {
    due("the last of both", fair().measure(3, 2), 0);
    due("no thrower", fair().measure(4, 2), UNKNOWN);
    due("no girl", fair().measure(3, 3), UNKNOWN);
    due("neither", fair().measure(4, 3), UNKNOWN);
    due("before the first", fair().measure(-1, 0), UNKNOWN);
    due("before the first", fair().measure(0, -1), UNKNOWN);
  }

  // ---- promise 10: hurl

  @Says(of = "Promise 10", words = "FULL: eight RINGS lie with her")
  private static void hurlOnSevenAndOnEight() {
    QuoitFeast x = dale("q0,50;r4;r5");
    hurl(x, 7, 0, 0);
    due("on seven", x.hurl(0, 0), 1);
    due("on eight", x.hurl(1, 0), FULL);
    due("it left nothing", x.ofGirl(0, 5), 0);
    due("nor of his", x.ofThrower(1, 4), 0);
    x.lift(0);
    due("on seven again", x.hurl(1, 0), 0);
    due("on eight again", x.hurl(1, 0), FULL);
    x.clear(0);
    due("on none", x.hurl(1, 0), 0);
  }

  @Says(of = "Promise 10", words = "UNKNOWN: THROWER, GIRL; FULL")
  private static void hurlUnknownGoesFirst() {
    due("eight lie", fair().hurl(3, 0), FULL);
    due("no thrower, eight lie", fair().hurl(4, 0), UNKNOWN);
    due("no thrower, eight lie", fair().hurl(-1, 0), UNKNOWN);
    due("no girl", fair().hurl(0, 3), UNKNOWN);
  }

  @Says(of = "Promise 10", words = "A THROW: its MEASURE")
  private static void hurlAnswersTheLeastAndTheMostMeasure() {
    QuoitFeast x = dale("q3,10;s9;r1");
    due("the most", x.hurl(0, 0), 20);
    due("the least", x.hurl(1, 0), 0);
    due("who has her", x.ofGirl(0, 3), 1);
  }

  // ---- promise 11: lift

  @Says(of = "Promise 11", words = "The last RING is LIFTED: who threw it. UNKNOWN; STATE: no RING lies with her")
  private static void liftFromEightToNone() {
    QuoitFeast x = dale("q0,50,50;r4;r5;r6;r7;r8");
    x.hurl(0, 1);
    for (int r = 0; r < 8; r++) x.hurl(r % 5, 0);
    for (int r = 7; r >= 0; r--) due("ring " + r, x.lift(0), r % 5);
    due("none lies with her", x.lift(0), STATE);
    due("the other girl's stays", x.ofGirl(1, 2), 1);
  }

  @Says(of = "Promise 11", words = "UNKNOWN; STATE: no RING lies with her")
  private static void liftWithNoneOrFromNobody() {
    due("none lies with her", dale("q0,50;r4").lift(0), STATE);
    due("no girl", dale("q0,50;r4").lift(1), UNKNOWN);
    due("no girl", dale("q0,50;r4").lift(-1), UNKNOWN);
    due("no dale", new QuoitFeast().lift(0), UNKNOWN);
  }

  @Says(of = "Promise 11", words = "The last RING is LIFTED: who threw it")
  private static void liftTakesBackJustWhatHurlDid() {
    leaves("hurl and lift", Bounds::fair, x -> x.hurl(2, 1) * 10 + x.lift(1), 62);
    leaves("lift of eight and hurl", Bounds::fair, x -> x.lift(0) * 10 + x.hurl(2, 0), 24);
  }

  // ---- promise 12: clear

  @Says(of = "Promise 12", words = "A GIRL is CLEARED: how many RINGS lay with her. UNKNOWN")
  private static void clearOf0To8Rings() {
    QuoitFeast x = dale("q0,50,50;r4");
    x.hurl(0, 1);
    due("none", x.clear(0), 0);
    x.hurl(0, 0);
    due("one", x.clear(0), 1);
    hurl(x, 8, 0, 0);
    due("eight", x.clear(0), 8);
    due("none again", x.clear(0), 0);
    due("the other girl's stays", x.many(3), 1);
    due("no girl", x.clear(2), UNKNOWN);
    due("no girl", x.clear(-1), UNKNOWN);
  }

  @Says(of = "Promise 12", words = "A GIRL is CLEARED: how many RINGS lay with her")
  private static void clearChangesHerRingsAlone() {
    leaves("clear of none", Bounds::fair, x -> x.clear(2), 0);
    QuoitFeast x = fair();
    x.clear(0);
    due("frost", x.many(2), 1);
    due("rings with others", x.many(3), 2);
    due("her yards", x.ofGirl(0, 0), 5);
    due("her lean", x.ofGirl(0, 1), 1);
    due("readings", x.many(4), 3);
  }

  // ---- promise 13: feast

  @Says(of = "Promise 13", words = "A FEAST of n pairs, that are cells of a SHEET from i on (2 n)")
  private static void feastTakesTwoCellsAPair() {
    QuoitFeast x = dale("q1,50;r5");
    row(x, 0, 0, 9, 0, 10, 3, 10, 9);
    due("one pair from 1 on", x.feast(0, 0, 1, 1, 4), 0);
    due("two pairs from 1 on", x.feast(0, 0, 1, 2, 4), 3);
    due("one pair from 3 on", x.feast(0, 0, 3, 1, 4), 3);
    due("no pair", x.feast(0, 0, 1, 0, 4), 1);
    for (int lane = 1; lane <= 2; lane++) {
      row(x, 1, lane, 2, 10);
      due("of lane " + lane, x.feast(1, lane, 0, 1, 4), 2);
    }
  }

  @Says(of = "Promise 13", words = "how many GIRLS somebody HAS then (what 0)")
  private static void feastFromNoGirlHadToAllFour() {
    QuoitFeast x = dale("q1,50,50,50,50;r9");
    due("none", feast(x, 0), 0);
    due("one", feast(x, 0, 0, 3, 0, 3), 1);
    due("four", feast(x, 0, 0, 0, 0, 1, 0, 2, 0, 3), 4);
    due("four but one", feast(x, 0, 0, 0, 0, 1, 0, 2, 0, 3, 2, 11), 3);
  }

  @Says(of = "Promise 13", words = {"its FIRST WRONG (1; NONE)", "of one with a FIRST WRONG: -100 less that (but what 1)"})
  private static void feastWithAFirstWrongWhateverIsAsked() {
    QuoitFeast x = dale("q1,50;r5");
    for (int what : new int[] {0, 2, 3, 4, 10, 11, 12, 13}) {
      due("wrong at 0, what " + what, feast(x, what, 0, 1), -100);
      due("wrong at 2, what " + what, feast(x, what, 0, 0, 2, 10, 1, 11, 0, 0), -102);
    }
    due("wrong at 0", feast(x, 1, 0, 1), 0);
    due("wrong at 2", feast(x, 1, 0, 0, 2, 10, 1, 11, 0, 0), 2);
    due("none wrong", feast(x, 1, 0, 0, 2, 10, 0, 11), NONE);
    due("no act, none wrong", feast(x, 1), NONE);
  }

  @Says(of = "Promise 13", words = "how many RINGERS were thrown in it (2)")
  private static void feastsRingersAreThoseThrownInIt() {
    QuoitFeast x = dale("q1,50;r5;r4");
    hurl(x, 2, 0, 0);
    due("none of those that lay", feast(x, 2), 0);
    due("one that is none", feast(x, 2, 1, 0), 0);
    due("one", feast(x, 2, 1, 0, 0, 0), 1);
    due("cleared since, yet thrown", feast(x, 2, 0, 0, 0, 0, 0, 11), 2);
    int[] twenty = pairs(20, 0, 0);
    for (int p = 0; p < 20; p += 5) twenty[2 * p + 1] = 11;
    due("four times four", feast(x, 2, twenty), 16);
  }

  @Says(of = "Promise 13", words = "how many of these lie on another RINGER as they come to lie (3)")
  private static void feastsRingersThatLieOnAnother() {
    QuoitFeast x = dale("q1,50,50;r5;r4");
    due("none", feast(x, 3), 0);
    due("the first lies on none", feast(x, 3, 0, 0), 0);
    due("nor on one that is no ringer", feast(x, 3, 1, 0, 0, 0), 0);
    due("the second does", feast(x, 3, 0, 0, 0, 0), 1);
    due("not with another girl", feast(x, 3, 0, 0, 0, 1), 0);
    due("one that is no ringer does not count", feast(x, 3, 0, 0, 1, 0), 0);
    due("with one between, it lies on all others", feast(x, 3, 0, 0, 1, 0, 0, 0), 1);
    due("cleared between", feast(x, 3, 0, 0, 0, 11, 0, 0), 0);
    due("cleared since, yet as it came to lie", feast(x, 3, 0, 0, 0, 0, 0, 11), 1);
    due("eight", feast(x, 3, pairs(8, 0, 0)), 7);
    x.hurl(0, 0);
    due("on one that lay before", feast(x, 3, 0, 0), 1);
  }

  @Says(of = "Promise 13", words = "FROST then (4)")
  private static void feastsFrostThen() {
    QuoitFeast x = dale("q1,50;r5");
    due("as it was", feast(x, 4, 0, 0), 1);
    due("0", feast(x, 4, 3, 10, 0, 10), 0);
    due("3", feast(x, 4, 0, 10, 3, 10), 3);
    due("not of the dale", x.many(2), 1);
  }

  @Says(of = "Promise 13", words = "who HAS GIRL g then (10 and g; NONE: nobody, there is no such GIRL)")
  private static void feastsHolderOfNobodyAndOfNoSuchGirl() {
    QuoitFeast x = dale("q1,50,50;r5;r4");
    int[] acts = {1, 1};
    due("nobody has girl 0", feast(x, 10, acts), NONE);
    due("girl 1", feast(x, 11, acts), 1);
    due("no girl 2", feast(x, 12, acts), NONE);
    due("no girl 3", feast(x, 13, acts), NONE);
    QuoitFeast four = dale("q1,50,50,50,50;r5;r4");
    due("girl 3", feast(four, 13, 1, 3), 1);
  }

  @Says(of = "Promise 13", words = "OUTSIDE: lane, n (0 .. 20), what (0 .. 4, 10 .. 13)")
  private static void feastOfLanes0To2() {
    for (int lane : new int[] {-1, 3, MIN, MAX}) {
      due("lane " + lane, fair().feast(2, lane, 0, 1, 0), OUTSIDE);
      due("lane " + lane + " of nothing", fair().feast(3, lane, 0, 1, 0), OUTSIDE);
    }
  }

  @Says(of = "Promise 13", words = "n (0 .. 20)")
  private static void feastOf0To20Pairs() {
    QuoitFeast x = dale("q1,50;r5");
    row(x, 0, 0, pairs(30, 3, 10));
    due("no pairs", x.feast(0, 0, 0, 0, 4), 1);
    due("20 pairs", x.feast(0, 0, 0, 20, 4), 3);
    due("20 pairs to the last cell", x.feast(0, 0, 20, 20, 4), 3);
    for (int n : new int[] {-1, 21, 30, MIN, MAX, MIN + 1, 1 << 30}) {
      due("n " + n, x.feast(0, 0, 0, n, 4), OUTSIDE);
      due("fault()", x.fault(), 0);
    }
  }

  @Says(of = "Promise 13", words = "what (0 .. 4, 10 .. 13)")
  private static void feastIsAsked0To4And10To13() {
    QuoitFeast x = dale("q1,50;r5");
    x.hurl(0, 0);
    int[] asked = {0, 1, 2, 3, 4, 10, 11, 12, 13};
    int[] want = {1, NONE, 0, 0, 1, 0, NONE, NONE, NONE};
    for (int a = 0; a < asked.length; a++) due("what " + asked[a], feast(x, asked[a]), want[a]);
    for (int what : new int[] {-1, 5, 6, 9, 14, MIN, MAX}) due("what " + what, feast(x, what), OUTSIDE);
  }

  @Says(of = "Promise 13", words = "FAULTS CAST, NULL, INDEX")
  private static void feastsRowIsOfThisLaneAndReachesSoFar() {
    faulty("ints as bytes", fair(), x -> x.feast(2, 0, 0, 1, 0), CAST);
    faulty("ints as shorts", fair(), x -> x.feast(2, 1, 0, 1, 0), CAST);
    for (int lane = 0; lane <= 2; lane++) {
      int as = lane;
      faulty("nothing as lane " + lane, fair(), x -> x.feast(3, as, 0, 0, 0), NULL);
    }
    due("all six cells", fair().feast(2, 2, 0, 3, 4), 3);
    faulty("four pairs", fair(), x -> x.feast(2, 2, 0, 4, 4), INDEX);
    due("the last pair", fair().feast(2, 2, 4, 1, 4), 1);
    faulty("half a pair", fair(), x -> x.feast(2, 2, 5, 1, 4), INDEX);
    faulty("behind the last", fair(), x -> x.feast(2, 2, 6, 1, 4), INDEX);
    faulty("from -1 on", fair(), x -> x.feast(2, 2, -1, 1, 4), INDEX);
    faulty("a sum beyond all ints", fair(), x -> x.feast(2, 2, MAX, 20, 4), INDEX);
  }

  @Says(of = "Promise 13", words = "n (0 .. 20)")
  private static void feastOf20PairsNeeds40Cells() {
    QuoitFeast x = dale("q1,50;r5");
    row(x, 0, 0, pairs(20, 3, 10));
    due("40 cells", x.feast(0, 0, 0, 20, 4), 3);
    faulty("from 1 on 39 are left", x, y -> y.feast(0, 0, 1, 20, 4), INDEX);
    x.sheet(0, 0, 39);
    faulty("39 cells", x, y -> y.feast(0, 0, 0, 20, 4), INDEX);
  }

  @Says(of = "Promise 13", words = "STATE: there is no DALE")
  private static void feastWithoutADaleIsRefused() {
    due("no acts", sheetsAlone().feast(2, 2, 0, 0, 0), STATE);
    due("three acts", sheetsAlone().feast(2, 2, 0, 3, 1), STATE);
    QuoitFeast x = sheetsAlone();
    x.feast(2, 2, 0, 3, 0);
    due("fault()", x.fault(), 0);
    leaves("three acts", Bounds::sheetsAlone, y -> y.feast(2, 2, 0, 3, 0), STATE);
  }

  @Says(of = "Promise 13", words = "pair by pair OUTSIDE: the second is none of 0 .. 3, 10, 11")
  private static void feastsSecondIs0To3Or10Or11() {
    QuoitFeast x = dale("q1,50,50,50,50;r5");
    for (int second : new int[] {0, 1, 2, 3, 10, 11}) due("second " + second, feast(x, 1, 0, second), NONE);
    for (int second : new int[] {-1, 4, 5, 8, 9, 12, MIN, MAX, 256, 1 << 16}) {
      due("second " + second, feast(x, 1, 0, second), OUTSIDE);
    }
  }

  @Says(of = "Promise 13", words = "it is 10 or 11 and the first is not 0 .. 3")
  private static void feastsFirstOfAFrostOrAClearingIs0To3() {
    QuoitFeast x = dale("q1,50,50,50,50;r5;r5;r5;r5;r5");
    for (int second = 10; second <= 11; second++) {
      for (int first = 0; first <= 3; first++) due(first + " and " + second, feast(x, 1, first, second), NONE);
      for (int first : new int[] {-1, 4, MIN, MAX}) due(first + " and " + second, feast(x, 1, first, second), OUTSIDE);
    }
  }

  @Says(of = "Promise 13", words = "UNKNOWN: the first is no THROWER (of 0 .. 3)")
  private static void feastsFirstOfAThrowIsAThrower() {
    QuoitFeast two = dale("q1,50;r5;r5");
    due("thrower 1 of two", feast(two, 1, 1, 0), NONE);
    due("thrower 2 of two", feast(two, 1, 2, 0), UNKNOWN);
    due("thrower -1", feast(two, 1, -1, 0), UNKNOWN);
    due("thrower 10", feast(two, 1, 10, 0), UNKNOWN);
    due("greatest", feast(two, 1, MAX, 0), UNKNOWN);
    due("frost 3 needs no thrower 3", feast(two, 4, 3, 10), 3);
    due("girl 0 is cleared by nobody", feast(two, 1, 0, 11), NONE);
    QuoitFeast five = dale("q1,50;r5;r5;r5;r5;r5");
    due("thrower 4 of five", feast(five, 1, 4, 0), NONE);
    due("thrower 5 of five", feast(five, 1, 5, 0), UNKNOWN);
  }

  @Says(of = "Promise 13", words = "pair by pair OUTSIDE")
  private static void feastTellsTheFirstPairThatIsRefused() {
    QuoitFeast x = dale("q1,50;r5");
    due("outside, then unknown", feast(x, 1, 0, 0, 0, 4, 1, 0), OUTSIDE);
    due("unknown, then outside", feast(x, 1, 0, 0, 1, 0, 0, 4), UNKNOWN);
    due("unknown, then a first that is outside", feast(x, 1, 1, 0, 4, 10), UNKNOWN);
    due("both in one pair", feast(x, 1, 9, 9), OUTSIDE);
    int[] twenty = pairs(20, 0, 10);
    twenty[38] = 1;
    twenty[39] = 0;
    due("in the twentieth pair", feast(x, 1, twenty), UNKNOWN);
    twenty[39] = 9;
    due("in the twentieth pair", feast(x, 1, twenty), OUTSIDE);
    row(x, 0, 0, 0, 10, 9, 9);
    due("pairs behind n are not looked at", x.feast(0, 0, 0, 1, 4), 0);
  }

  @Says(of = "Promise 13", words = {"UNKNOWN: SHEET; OUTSIDE: lane", "FAULTS CAST, NULL, INDEX; STATE: there is no DALE; pair by pair OUTSIDE"})
  private static void feastTellsTheFirstInThisOrder() {
    due("unknown, lane, n, what", fair().feast(4, 3, -1, -1, -1), UNKNOWN);
    due("lane, null", fair().feast(3, 3, 0, 1, 0), OUTSIDE);
    due("n, cast", fair().feast(2, 0, 0, 21, 0), OUTSIDE);
    due("n, null", fair().feast(3, 2, 0, -1, 0), OUTSIDE);
    due("what, index", fair().feast(2, 2, 7, 1, 14), OUTSIDE);
    faulty("cast, index", fair(), x -> x.feast(2, 0, 7, 1, 0), CAST);
    faulty("null, index", fair(), x -> x.feast(3, 0, 7, 1, 0), NULL);
    faulty("cast, no dale", sheetsAlone(), x -> x.feast(2, 0, 0, 1, 0), CAST);
    faulty("null, no dale", sheetsAlone(), x -> x.feast(3, 0, 0, 1, 0), NULL);
    faulty("index, no dale", sheetsAlone(), x -> x.feast(2, 2, 0, 4, 0), INDEX);
    due("n, no dale", sheetsAlone().feast(2, 2, 0, 21, 0), OUTSIDE);
    faulty("index, a pair outside", fair(), x -> x.feast(1, 1, 0, 2, 0), INDEX);
    due("no dale, a pair outside", sheetsAlone().feast(1, 1, 0, 1, 0), STATE);
    due("no dale, no thrower", sheetsAlone().feast(2, 2, 0, 1, 0), STATE);
  }

  @Says(of = "Promise 13", words = "pair by pair OUTSIDE")
  private static void feastRefusedByALaterPairGoesBeforeItsFirstWrong() {
    QuoitFeast x = dale("q1,50;r5");
    due("wrong, then outside", feast(x, 1, 0, 3, 0, 9), OUTSIDE);
    due("wrong, then unknown", feast(x, 0, 3, 11, 1, 0), UNKNOWN);
    int[] nine = pairs(10, 0, 0);
    nine[19] = 4;
    due("nine throws, then outside", feast(x, 1, nine), OUTSIDE);
  }
}
