import java.util.LinkedHashMap;
import java.util.Map;

// Boundary cases that the document names ahead of its promises: refusals, faults, sets, shares.
public final class BoundsOfTermsTest extends Bounds {
  public static void main(String[] args) throws Exception {
    run(BoundsOfTermsTest.class, "What it is", "Terms");
  }

  @Says(of = "What it is", words = "An object is used for at most 512 calls after it has been made")
  private static void call512IsStillAnswered() {
    QuoitFeast x = new QuoitFeast();
    String text = "q0,10;r7";
    row(x, 0, 0, codes(text));
    x.dale(0, 0, 0, text.length());
    int calls = 1 + text.length() + 1;
    int trace = 0;
    for (; calls < 510; calls++) {
      due("tell(0)", x.tell(0), 7);
      trace = 31 * trace + 1;
    }
    due("call 511", x.hurl(0, 0), 6);
    due("call 512", x.trace(), trace);
  }

  @Says(of = "What it is", words = "what later calls answer is free")
  private static void laterCallsAnswerSomethingAndDoNotThrow() {
    QuoitFeast x = fair();
    for (int call = 0; call < 2000; call++) {
      x.tell(2);
      x.reading(0, 0, call);
      x.hurl(call % 6, call % 5);
      x.dale(0, 0, 0, 23);
    }
    due("all were answered", 1, 1);
  }

  // ---- refusals

  private static Map<String, Call> ofAGirl(int g) {
    Map<String, Call> calls = new LinkedHashMap<>();
    calls.put("ofGirl", x -> x.ofGirl(g, 0));
    calls.put("lean", x -> x.lean(g, 1));
    calls.put("place", x -> x.place(g, 1));
    calls.put("measure", x -> x.measure(0, g));
    calls.put("hurl", x -> x.hurl(0, g));
    calls.put("lift", x -> x.lift(g));
    calls.put("clear", x -> x.clear(g));
    calls.put("even", x -> x.even(0, 1, g));
    calls.put("reading", x -> x.reading(0, g, 0));
    calls.put("leans", x -> x.leans(g));
    return calls;
  }

  private static Map<String, Call> ofAThrower(int t) {
    Map<String, Call> calls = new LinkedHashMap<>();
    calls.put("ofThrower", x -> x.ofThrower(t, 0));
    calls.put("train", x -> x.train(t, 1));
    calls.put("measure", x -> x.measure(t, 0));
    calls.put("hurl", x -> x.hurl(t, 0));
    calls.put("wins", x -> x.wins(t));
    calls.put("weds", x -> x.weds(t));
    calls.put("even, the first", x -> x.even(t, 1, 0));
    calls.put("even, the other", x -> x.even(1, t, 0));
    calls.put("reading", x -> x.reading(t, 0, 0));
    calls.put("arms", x -> x.arms(t));
    calls.put("kinds", x -> x.kinds(t));
    calls.put("tell", x -> x.tell(t));
    calls.put("cheer", x -> x.cheer(t));
    calls.put("as", x -> x.as(t, 0));
    return calls;
  }

  private static Map<String, Call> ofASheet(int k) {
    Map<String, Call> calls = new LinkedHashMap<>();
    calls.put("dale", x -> x.dale(k, 0, 0, 0));
    calls.put("feast", x -> x.feast(k, 0, 0, 0, 0));
    calls.put("sheet", x -> x.sheet(k, 0, 0));
    calls.put("lose", x -> x.lose(k));
    calls.put("put", x -> x.put(k, 0, 0));
    calls.put("copy, the first", x -> x.copy(k, 0, 0, 0, 0));
    calls.put("copy, the other", x -> x.copy(0, 0, k, 0, 0));
    return calls;
  }

  private static void allUnknown(String of, Map<String, Call> calls, Maker maker) {
    calls.forEach((name, asks) -> due(name + " of " + of, asks.on(maker.make()), UNKNOWN));
  }

  private static void noneUnknown(String of, Map<String, Call> calls, Maker maker) {
    calls.forEach((name, asks) -> due(name + " of " + of + " is unknown", asks.on(maker.make()) == UNKNOWN ? 1 : 0, 0));
  }

  @Says(of = "Terms", words = "UNKNOWN (there is no such GIRL, THROWER, SHEET, place of a row)")
  private static void girlsEndWithTheLast() {
    Maker maker = () -> dale("q0,11,22,33;r1;r2");
    for (int g : new int[] {-1, 3, 4, MIN, MAX}) {
      allUnknown("girl " + g, ofAGirl(g), maker);
      due("odds of girl " + g, maker.make().odds(0, g, 0), LOST);
    }
    for (int g : new int[] {0, 2}) {
      noneUnknown("girl " + g, ofAGirl(g), maker);
      due("odds of girl " + g, maker.make().odds(0, g, 0), 1);
    }
  }

  @Says(of = "Terms", words = "UNKNOWN (there is no such GIRL, THROWER, SHEET, place of a row)")
  private static void throwersEndWithTheLast() {
    Maker maker = () -> dale("q0,11,22;r1;r2;l3");
    for (int t : new int[] {-1, 3, 4, 5, MIN, MAX}) {
      allUnknown("thrower " + t, ofAThrower(t), maker);
      due("odds of thrower " + t, maker.make().odds(t, 0, 0), LOST);
    }
    for (int t : new int[] {0, 2}) {
      noneUnknown("thrower " + t, ofAThrower(t), maker);
      due("odds of thrower " + t, maker.make().odds(t, 0, 0), 1);
    }
  }

  @Says(of = "Terms", words = "UNKNOWN (there is no such GIRL, THROWER, SHEET, place of a row)")
  private static void withoutADaleThereIsNoGirlNoThrower() {
    allUnknown("girl 0 without a dale", ofAGirl(0), QuoitFeast::new);
    allUnknown("thrower 0 without a dale", ofAThrower(0), QuoitFeast::new);
    due("odds without a dale", new QuoitFeast().odds(0, 0, 0), LOST);
  }

  @Says(of = "Terms", words = "UNKNOWN (there is no such GIRL, THROWER, SHEET, place of a row)")
  private static void sheetsAre0To3() {
    Maker maker = () -> {
      QuoitFeast x = dale("q0,11;r1");
      for (int k = 0; k < 4; k++) x.sheet(k, 0, 1);
      return x;
    };
    for (int k : new int[] {-1, 4, MIN, MAX}) {
      allUnknown("sheet " + k, ofASheet(k), maker);
      lost("cell of sheet " + k, maker.make(), x -> x.cell(k, 0, 0), 0);
    }
    for (int k : new int[] {0, 3}) {
      noneUnknown("sheet " + k, ofASheet(k), maker);
      due("cell of sheet " + k, maker.make().cell(k, 0, 0), 0);
    }
  }

  @Says(of = "Terms", words = {
    "REFUSALS, in the order in which a call's line tells them", "OUTSIDE (another number is not as told), STATE (as told), FULL"})
  private static void ofTwoRefusalsTheOneThatTheLineTellsFirst() {
    due("ofGirl: UNKNOWN before OUTSIDE", fair().ofGirl(3, 6), UNKNOWN);
    due("ofThrower: UNKNOWN before OUTSIDE", fair().ofThrower(4, 5), UNKNOWN);
    due("freeze: OUTSIDE before STATE", sheetsAlone().freeze(4), OUTSIDE);
    due("lean: UNKNOWN before OUTSIDE", fair().lean(3, 10), UNKNOWN);
    due("place: UNKNOWN before OUTSIDE", fair().place(3, 10), UNKNOWN);
    due("train: UNKNOWN before OUTSIDE", fair().train(4, 10), UNKNOWN);
    due("hurl: UNKNOWN before FULL", fair().hurl(4, 0), UNKNOWN);
    due("feast: UNKNOWN before OUTSIDE", fair().feast(4, 3, 0, 0, 0), UNKNOWN);
    due("feast: OUTSIDE before STATE", sheetsAlone().feast(2, 2, 0, 0, 5), OUTSIDE);
    due("feast: STATE before a pair's OUTSIDE", sheetsAlone().feast(1, 1, 0, 1, 0), STATE);
    due("feast: a pair's OUTSIDE before its UNKNOWN", fair().feast(1, 1, 0, 1, 0), OUTSIDE);
    due("match: OUTSIDE before STATE", sheetsAlone().match(5), OUTSIDE);
    due("reading: UNKNOWN before OUTSIDE", fair().reading(4, 0, 21), UNKNOWN);
    due("sheet: UNKNOWN before OUTSIDE", fair().sheet(4, 3, 61), UNKNOWN);
    due("as: UNKNOWN before OUTSIDE", fair().as(4, 3), UNKNOWN);
    QuoitFeast full = fair();
    for (int r = 0; r < 8; r++) full.reading(0, 0, 0);
    due("reading: OUTSIDE before FULL", full.reading(0, 0, 21), OUTSIDE);
    due("reading: FULL", full.reading(0, 0, 20), FULL);
  }

  @Says(of = "Terms", words = "Of a call the first that is come to, in the order told")
  private static void ofTwoFaultsTheOneThatTheLineTellsFirst() {
    faulty("dale: CAST before SIZE", fair(), x -> x.dale(0, 1, 0, -1), CAST);
    faulty("dale: NULL before SIZE", fair(), x -> x.dale(3, 1, 0, -1), NULL);
    faulty("dale: SIZE before INDEX", fair(), x -> x.dale(0, 0, -1, -1), SIZE);
    faulty("feast: CAST before INDEX", fair(), x -> x.feast(2, 1, -1, 1, 0), CAST);
    faulty("feast: NULL before INDEX", fair(), x -> x.feast(3, 1, -1, 1, 0), NULL);
    faulty("put: NULL before INDEX", fair(), x -> x.put(3, -1, 0), NULL);
    lost("cell: CAST before INDEX", fair(), x -> x.cell(0, -1, 1), CAST);
    lost("cell: NULL before INDEX", fair(), x -> x.cell(3, -1, 1), NULL);
    faulty("copy: NULL before INDEX", fair(), x -> x.copy(3, -1, 0, 0, 1), NULL);
    faulty("copy: CAST before INDEX", fair(), x -> x.copy(0, -1, 1, 0, 1), CAST);
  }

  @Says(of = "Terms", words = "REFUSALS, in the order in which a call's line tells them")
  private static void refusalsAndFaultsMeetInTheOrderOfTheLine() {
    due("dale: OUTSIDE before CAST", fair().dale(0, 3, 0, 23), OUTSIDE);
    due("dale: OUTSIDE before NULL", fair().dale(3, 3, 0, 23), OUTSIDE);
    due("feast: OUTSIDE before NULL", fair().feast(3, 2, 0, 21, 0), OUTSIDE);
    faulty("feast: INDEX before STATE", sheetsAlone(), x -> x.feast(2, 2, 7, 0, 0), INDEX);
    due("sheet: OUTSIDE before SIZE", fair().sheet(0, 3, -1), OUTSIDE);
    due("put: UNKNOWN before NULL", new QuoitFeast().put(4, 0, 0), UNKNOWN);
    lost("cell: OUTSIDE before NULL", new QuoitFeast(), x -> x.cell(0, 0, 3), 0);
    due("copy: UNKNOWN of the other before NULL of the first", fair().copy(3, 0, 4, 0, 0), UNKNOWN);
    due("as: OUTSIDE before CAST", fair().as(0, 3), OUTSIDE);
  }

  /** Refused calls that name faults; all are asked of fair(). */
  private static Map<String, Call> refusedThatNameFaults() {
    Map<String, Call> calls = new LinkedHashMap<>();
    calls.put("-1 dale, no sheet", x -> x.dale(4, 0, 0, 23));
    calls.put("-2 dale, lane", x -> x.dale(0, 3, 0, 23));
    calls.put("-1 feast, no sheet", x -> x.feast(4, 2, 0, 3, 0));
    calls.put("-2 feast, lane", x -> x.feast(2, 3, 0, 3, 0));
    calls.put("-2 feast, n", x -> x.feast(2, 2, 0, 21, 0));
    calls.put("-2 feast, what", x -> x.feast(2, 2, 0, 3, 5));
    calls.put("-2 feast, a pair", x -> x.feast(1, 1, 0, 1, 0));
    calls.put("-1 feast, a pair's thrower", x -> x.feast(2, 2, 3, 1, 0));
    calls.put("-1 sheet, no sheet", x -> x.sheet(4, 0, 1));
    calls.put("-2 sheet, lane", x -> x.sheet(0, 3, 1));
    calls.put("-2 sheet, n", x -> x.sheet(0, 0, 61));
    calls.put("-1 put, no sheet", x -> x.put(4, 0, 1));
    calls.put("-1 copy, no sheet", x -> x.copy(4, 0, 0, 0, 1));
    calls.put("-1 copy, no other", x -> x.copy(0, 0, 4, 0, 1));
    calls.put("-1 as, no thrower", x -> x.as(4, 0));
    calls.put("-2 as, kind", x -> x.as(0, 3));
    return calls;
  }

  /** Refused calls that name no fault; all are asked of fair(). */
  private static Map<String, Call> refusedThatNameNone() {
    Map<String, Call> calls = new LinkedHashMap<>();
    calls.put("-1 ofGirl", x -> x.ofGirl(3, 0));
    calls.put("-2 ofGirl", x -> x.ofGirl(0, 6));
    calls.put("-1 ofThrower", x -> x.ofThrower(4, 0));
    calls.put("-2 ofThrower", x -> x.ofThrower(0, 5));
    calls.put("-2 freeze", x -> x.freeze(4));
    calls.put("-1 lean", x -> x.lean(3, 5));
    calls.put("-2 lean", x -> x.lean(0, 10));
    calls.put("-1 place", x -> x.place(3, 7));
    calls.put("-2 place", x -> x.place(0, 0));
    calls.put("-1 train", x -> x.train(4, 7));
    calls.put("-2 train", x -> x.train(0, 0));
    calls.put("-1 measure", x -> x.measure(4, 0));
    calls.put("-1 hurl, thrower", x -> x.hurl(4, 2));
    calls.put("-1 hurl, girl", x -> x.hurl(0, 3));
    calls.put("-4 hurl", x -> x.hurl(0, 0));
    calls.put("-1 lift", x -> x.lift(3));
    calls.put("-3 lift", x -> x.lift(2));
    calls.put("-1 clear", x -> x.clear(3));
    calls.put("-1 wins", x -> x.wins(4));
    calls.put("-2 match", x -> x.match(5));
    calls.put("-1 weds", x -> x.weds(4));
    calls.put("-1 even, thrower", x -> x.even(4, 0, 0));
    calls.put("-1 even, both the same", x -> x.even(0, 0, 0));
    calls.put("-1 even, girl", x -> x.even(0, 1, 3));
    calls.put("-1 reading, thrower", x -> x.reading(4, 0, 0));
    calls.put("-1 reading, girl", x -> x.reading(0, 3, 0));
    calls.put("-2 reading", x -> x.reading(0, 0, 21));
    calls.put("-2 back", x -> x.back(4));
    calls.put("-1 leans", x -> x.leans(3));
    calls.put("-1 arms", x -> x.arms(4));
    calls.put("-1 kinds", x -> x.kinds(4));
    calls.put("-1 lose", x -> x.lose(4));
    calls.put("-1 tell", x -> x.tell(4));
    calls.put("-1 cheer", x -> x.cheer(4));
    calls.put("-2 many", x -> x.many(5));
    return calls;
  }

  private static int numberAhead(String name) {
    return Integer.parseInt(name.substring(0, name.indexOf(' ')));
  }

  @Says(of = "Terms", words = "they change nothing (but fault(), of a call that names FAULTS)")
  private static void refusalsChangeNothing() {
    refusedThatNameFaults().forEach((name, asks) -> leaves(name, Bounds::fair, asks, numberAhead(name)));
    refusedThatNameNone().forEach((name, asks) -> leaves(name, Bounds::fair, asks, numberAhead(name)));
    leaves("odds, refused", Bounds::fair, x -> x.odds(4, 0, 0), LOST);
    leaves("cell, refused", Bounds::fair, x -> x.cell(0, 0, 3), LOST);
  }

  @Says(of = "Terms", words = "they change nothing (but fault(), of a call that names FAULTS)")
  private static void refusalsOfCallsThatNameFaultsMakeFault0() {
    refusedThatNameFaults().forEach((name, asks) -> {
      QuoitFeast x = fair();
      due("fault() before " + name, x.fault(), CAST);
      asks.on(x);
      due("fault() after " + name, x.fault(), 0);
    });
    QuoitFeast x = fair();
    lost("cell, refused", x, y -> y.cell(0, 0, 3), 0);
  }

  @Says(of = "Terms", words = "they change nothing (but fault(), of a call that names FAULTS)")
  private static void refusalsOfOtherCallsLeaveFault() {
    refusedThatNameNone().forEach((name, asks) -> {
      QuoitFeast x = fair();
      asks.on(x);
      due("fault() after " + name, x.fault(), CAST);
    });
    QuoitFeast x = fair();
    x.odds(4, 0, 0);
    due("fault() after odds", x.fault(), CAST);
  }

  // ---- faults

  private static Map<String, Call> faultyCalls() {
    Map<String, Call> calls = new LinkedHashMap<>();
    calls.put("1 dale", x -> x.dale(3, 0, 0, 1));
    calls.put("1 feast", x -> x.feast(3, 2, 0, 1, 0));
    calls.put("1 put", x -> x.put(3, 0, 1));
    calls.put("1 copy from nothing", x -> x.copy(3, 0, 0, 0, 1));
    calls.put("1 copy to nothing", x -> x.copy(0, 0, 3, 0, 1));
    calls.put("2 dale", x -> x.dale(0, 1, 0, 23));
    calls.put("2 feast", x -> x.feast(2, 1, 0, 1, 0));
    calls.put("2 copy", x -> x.copy(0, 0, 1, 0, 1));
    calls.put("2 as", x -> x.as(0, 1));
    calls.put("3 dale", x -> x.dale(0, 0, 0, 24));
    calls.put("3 feast", x -> x.feast(2, 2, 0, 4, 0));
    calls.put("3 put", x -> x.put(0, 23, 1));
    calls.put("3 copy", x -> x.copy(0, 0, 0, 0, 24));
    calls.put("4 dale", x -> x.dale(0, 0, 0, -1));
    calls.put("4 sheet", x -> x.sheet(0, 0, -1));
    return calls;
  }

  private static Map<String, Call> faultyCells() {
    Map<String, Call> calls = new LinkedHashMap<>();
    calls.put("1 cell", x -> x.cell(3, 0, 0));
    calls.put("2 cell", x -> x.cell(0, 0, 1));
    calls.put("3 cell", x -> x.cell(0, 23, 0));
    return calls;
  }

  @Says(of = "Terms", words = {
    "FAULTS are the machine's: 1 NULL (there is nothing), 2 CAST (it is of another lane, kind), 3 INDEX", "4 SIZE (a length below 0)",
    "it answers -10 less it (LOST, where a long is answered, as for refusals) and changes nothing; fault() tells it"})
  private static void faultsAreAnsweredAsMinus10LessTheirNumber() {
    faultyCalls().forEach((name, asks) -> faulty(name, fair(), asks, numberAhead(name)));
  }

  @Says(of = "Terms", words = "(LOST, where a long is answered, as for refusals)")
  private static void faultsAreLostWhereALongIsAnswered() {
    faultyCells().forEach((name, asks) -> lost(name, fair(), asks, numberAhead(name)));
    due("LOST", QuoitFeast.LOST, Long.MIN_VALUE);
    due("odds, unknown", fair().odds(4, 0, 0), LOST);
    due("odds, outside", fair().odds(0, 0, 2), LOST);
  }

  @Says(of = "Terms", words = "and changes nothing; fault() tells it")
  private static void faultsChangeNothing() {
    faultyCalls().forEach((name, asks) -> leaves(name, Bounds::fair, asks, -10 - numberAhead(name)));
    faultyCells().forEach((name, asks) -> leaves(name, Bounds::fair, asks, LOST));
  }

  @Says(of = "Terms", words = "of cells from i on also where i is not 0 .. how many there are, if none of them is taken, too")
  private static void noCellsAreTakenFrom0ToHowManyThereAre() {
    for (int i : new int[] {0, 1, 22, 23}) {
      due("dale of none from " + i, fair().dale(0, 0, i, 0), -100);
      due("copy of none from " + i, fair().copy(0, i, 0, 0, 0), 0);
      due("copy of none to " + i, fair().copy(0, 0, 0, i, 0), 0);
    }
    due("feast of none from 0", fair().feast(2, 2, 0, 0, 4), 1);
    due("feast of none from 6", fair().feast(2, 2, 6, 0, 4), 1);
  }

  @Says(of = "Terms", words = "of cells from i on also where i is not 0 .. how many there are, if none of them is taken, too")
  private static void noCellsAreTakenBeforeOrBeyondIsIndex() {
    for (int i : new int[] {-1, 24, MIN, MAX}) {
      faulty("dale of none from " + i, fair(), x -> x.dale(0, 0, i, 0), INDEX);
      faulty("copy of none from " + i, fair(), x -> x.copy(0, i, 0, 0, 0), INDEX);
      faulty("copy of none to " + i, fair(), x -> x.copy(0, 0, 0, i, 0), INDEX);
    }
    for (int i : new int[] {-1, 7, MIN, MAX}) {
      faulty("feast of none from " + i, fair(), x -> x.feast(2, 2, i, 0, 4), INDEX);
    }
  }

  @Says(of = "Terms", words = "of cells from i on also where i is not 0 .. how many there are, if none of them is taken, too")
  private static void anEmptyRowHasNoneFrom0On() {
    QuoitFeast x = dale("q2,11;r1");
    x.sheet(0, 0, 0);
    due("dale", x.dale(0, 0, 0, 0), -100);
    due("feast", x.feast(0, 0, 0, 0, 4), 2);
    due("copy", x.copy(0, 0, 0, 0, 0), 0);
    faulty("dale from 1", x, y -> y.dale(0, 0, 1, 0), INDEX);
    faulty("feast from 1", x, y -> y.feast(0, 0, 1, 0, 4), INDEX);
    faulty("copy from 1", x, y -> y.copy(0, 1, 0, 0, 0), INDEX);
    faulty("copy to 1", x, y -> y.copy(0, 0, 0, 1, 0), INDEX);
  }

  // ---- numbers

  @Says(of = "Terms", words = "NONE is -9")
  private static void noneIsMinus9() {
    due("NONE", QuoitFeast.NONE, -9);
    due("nobody has her", dale("q0,11;r1").ofGirl(0, 3), -9);
  }

  @Says(of = "Terms", words = "Sets are told as bits (bit k for number k)")
  private static void theLeastAndTheLastNumberHaveBitsOfTheirOwn() {
    QuoitFeast x = dale("q0,10,90,90,11;r1;r9");
    x.hurl(0, 0);
    due("girl 0", x.ofThrower(0, 3), 1);
    x.clear(0);
    x.hurl(0, 3);
    due("girl 3", x.ofThrower(0, 3), 8);
    x.hurl(0, 0);
    x.hurl(1, 1);
    x.hurl(1, 2);
    due("girls 0 and 3", x.wins(0), 9);
    due("girls 1 and 2", x.wins(1), 6);
  }

  @Says(of = "Terms", words = "Shares are told as upper and lower number (above 0) in least terms")
  private static void sharesOfNoneAndAllHaveTheLowerNumber1() {
    QuoitFeast x = dale("q0,50;r5;r9");
    due("all of three, upper", x.odds(0, 0, 0), 1);
    due("all of three, lower", x.odds(0, 0, 1), 1);
    x.hurl(0, 0);
    due("none of three, upper", x.odds(1, 0, 0), 0);
    due("none of three, lower", x.odds(1, 0, 1), 1);
  }
}
