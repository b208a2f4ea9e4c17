// For each promise of the document: ordinary inputs, the edges that it names, wrong inputs.
public final class PromisesTest {
  private static final int MIN = Integer.MIN_VALUE, MAX = Integer.MAX_VALUE;
  private static int wrong = 0;
  private static int asked = 0;

  private static void due(String call, long got, long want) {
    asked++;
    if (got != want) {
      wrong++;
      System.out.println(call + " answered " + got + ", due is " + want);
    }
  }

  /** Puts a text on sheet 3 as ints and makes a dale of it. */
  private static int read(QuoitFeast x, String text) {
    row(x, 3, 2, codes(text));
    return x.dale(3, 2, 0, text.length());
  }

  private static int[] codes(String text) {
    int[] codes = new int[text.length()];
    for (int i = 0; i < codes.length; i++) codes[i] = text.charAt(i);
    return codes;
  }

  private static void row(QuoitFeast x, int k, int lane, int... cells) {
    x.sheet(k, lane, cells.length);
    for (int i = 0; i < cells.length; i++) x.put(k, i, cells[i]);
  }

  private static QuoitFeast dale(String text) {
    QuoitFeast x = new QuoitFeast();
    read(x, text);
    return x;
  }

  private static int feast(QuoitFeast x, int what, int... pairs) {
    row(x, 2, 2, pairs);
    return x.feast(2, 2, 0, pairs.length / 2, what);
  }

  public static void main(String[] args) {
    newObject();
    daleTexts();
    daleRefusals();
    daleMakesAnew();
    ofGirl();
    ofThrower();
    settings();
    measures();
    hurls();
    liftsAndClears();
    feasts();
    feastRefusals();
    wins();
    matches();
    weddings();
    evens();
    readings();
    leansArmsKinds();
    odds();
    sheets();
    cells();
    copies();
    tellings();
    kindsTaken();
    faults();
    many();
    constants();
    System.out.println(asked + " answers asked for, " + wrong + " not as due");
    if (wrong != 0) System.exit(1);
  }

  private static void newObject() {
    QuoitFeast x = new QuoitFeast();
    for (int what = 0; what <= 4; what++) due("new many", x.many(what), 0);
    for (int k = 0; k < 4; k++) {
      due("new lose", x.lose(k), 0);
      due("new put", x.put(k, 0, 1), -11);
    }
    due("new trace", x.trace(), 0);
    due("new fault", new QuoitFeast().fault(), 0);
    due("new ofGirl", x.ofGirl(0, 0), -1);
    due("new ofThrower", x.ofThrower(0, 0), -1);
  }

  private static void daleTexts() {
    QuoitFeast x = new QuoitFeast();
    String longest = "q3,99,10,11,12;r1;l2;s3;r4;r9";
    due("longest", read(x, longest), 5);
    due("girls", x.many(0), 4);
    due("frost", x.many(2), 3);
    due("shortest", read(x, "q0,10;s1"), 1);
    String[] faulty = {
      "", "Q", "q", "q4", "q/", "q:", "q0", "q0;", "q0,", "q0,0", "q0,a", "q0,1", "q0,1:", "q0,1/",
      "q0,10", "q0,10x", "q0,10,", "q0,10;", "q0,10;R", "q0,10;r", "q0,10;r0", "q0,10;r:", "q0,10;r1x",
      "q0,10;r1,", "q0,10;r1;", "q0,10;r1;t", "q0,10,20,30,40,", "q0,10,20,30,40,5", "q0,10,20,30,40;r1,",
      "q0,10;r1;r1;r1;r1;r1;", "q0,10;r1;r1;r1;r1;r1;r1", "q0,10;r1;r1;r1;r1;r1x", " q0,10;r1", "q0,10;r1 "
    };
    int[] at = {
      0, 0, 1, 1, 1, 1, 2, 2, 3, 3, 3, 4, 4, 4,
      5, 5, 6, 6, 6, 7, 7, 7, 8,
      8, 9, 9, 14, 14, 17,
      20, 20, 20, 0, 8
    };
    for (int f = 0; f < faulty.length; f++) {
      due("dale of '" + faulty[f] + "'", read(x, faulty[f]), -100 - at[f]);
      due("fault after a faulty text", x.fault(), 0);
      due("the dale stands", x.many(1), 1);
    }
    row(x, 0, 0, codes("xxq2,31;l5yy"));
    due("from the midst", x.dale(0, 0, 2, 8), 1);
    due("frost", x.many(2), 2);
    due("yards", x.ofGirl(0, 0), 3);
    due("lean", x.ofGirl(0, 1), 1);
    due("arm", x.ofThrower(0, 1), 5);
    due("places count from the text's own start", x.dale(0, 0, 2, 9), -108);
    due("too short", x.dale(0, 0, 2, 7), -107);
    row(x, 1, 2, 'q' + 256);
    due("ints are not cut", x.dale(1, 2, 0, 1), -100);
    row(x, 1, 0, 'q' + 256);
    due("bytes are cut", x.dale(1, 0, 0, 1), -101);
    row(x, 1, 1, 'q' + 65536);
    due("shorts are cut", x.dale(1, 1, 0, 1), -101);
  }

  private static void daleRefusals() {
    QuoitFeast x = new QuoitFeast();
    row(x, 0, 0, codes("q0,10;r1"));
    due("no sheet", x.dale(-1, 9, -1, -1), -1);
    due("no sheet", x.dale(4, 0, 0, 8), -1);
    due("lane", x.dale(0, 3, -1, -1), -2);
    due("lane", x.dale(1, -1, 0, 0), -2);
    due("cast", x.dale(0, 1, -1, -1), -12);
    due("fault", x.fault(), 2);
    due("null", x.dale(1, 1, -1, -1), -11);
    due("fault", x.fault(), 1);
    due("size", x.dale(0, 0, -1, -1), -14);
    due("fault", x.fault(), 4);
    due("size", x.dale(0, 0, 0, MIN), -14);
    due("index", x.dale(0, 0, -1, 0), -13);
    due("fault", x.fault(), 3);
    due("index", x.dale(0, 0, 0, 9), -13);
    due("index", x.dale(0, 0, 9, 0), -13);
    due("index", x.dale(0, 0, 1, MAX), -13);
    due("index", x.dale(0, 0, MAX, MAX), -13);
    due("index", x.dale(0, 0, MIN, 1), -13);
    due("none taken at the end", x.dale(0, 0, 8, 0), -100);
    due("fault", x.fault(), 0);
    due("no dale yet", x.many(1), 0);
    x.dale(1, 1, 0, 0);
    due("taken", x.dale(0, 0, 0, 8), 1);
    due("fault", x.fault(), 0);
  }

  private static void daleMakesAnew() {
    QuoitFeast x = dale("q1,51,30;r4;l4");
    x.hurl(0, 0);
    x.reading(0, 0, 0);
    x.tell(0);
    due("rings", x.many(3), 1);
    due("again", read(x, "q2,30;s4"), 1);
    due("girls", x.many(0), 1);
    due("rings", x.many(3), 0);
    due("readings", x.many(4), 0);
    due("no second girl", x.ofGirl(1, 0), -1);
    due("no second thrower", x.ofThrower(1, 0), -1);
    due("nobody has her", x.ofGirl(0, 3), -9);
    due("the trace stays", x.trace(), 1);
    due("the sheet stays", x.cell(3, 0, 2), 'q');
    x.hurl(0, 0);
    x.reading(0, 0, 0);
    due("faulty", read(x, "q2,30;"), -106);
    due("rings stay", x.many(3), 1);
    due("readings stay", x.many(4), 1);
  }

  private static void ofGirl() {
    QuoitFeast x = dale("q1,51,30;r4;l4;r9");
    due("unknown first", x.ofGirl(2, 6), -1);
    due("unknown", x.ofGirl(-1, 0), -1);
    due("unknown", x.ofGirl(MAX, 0), -1);
    due("outside", x.ofGirl(1, -1), -2);
    due("outside", x.ofGirl(1, 6), -2);
    due("yards", x.ofGirl(1, 0), 3);
    due("lean", x.ofGirl(0, 1), 1);
    due("none has her", x.ofGirl(0, 3), -9);
    due("no ring", x.ofGirl(0, 4), -9);
    x.hurl(2, 0);
    x.hurl(2, 1);
    due("a near one has her", x.ofGirl(0, 3), 2);
    due("by its measure", x.ofGirl(0, 4), 5);
    due("no ringer", x.ofGirl(0, 5), 0);
    x.hurl(0, 0);
    x.hurl(1, 0);
    x.hurl(2, 0);
    due("the last ringer has her", x.ofGirl(0, 3), 1);
    due("by a ringer", x.ofGirl(0, 4), 0);
    due("rings", x.ofGirl(0, 2), 4);
    due("ringers", x.ofGirl(0, 5), 2);
    x.train(1, 1);
    x.place(0, 9);
    x.lean(0, 0);
    x.freeze(3);
    due("what lies keeps its measure", x.ofGirl(0, 4), 0);
    due("what lies keeps its measure", x.ofGirl(0, 5), 2);
    QuoitFeast y = dale("q0,50;r4;r6;r3");
    y.hurl(2, 0);
    y.hurl(0, 0);
    y.hurl(1, 0);
    due("of several the first", y.ofGirl(0, 3), 0);
    due("their measure", y.ofGirl(0, 4), 1);
  }

  private static void ofThrower() {
    QuoitFeast x = dale("q1,51,30,40;r4;l4;s4;l9;s9");
    due("unknown first", x.ofThrower(5, 5), -1);
    due("unknown", x.ofThrower(-1, 0), -1);
    due("unknown", x.ofThrower(MIN, 0), -1);
    due("outside", x.ofThrower(0, -1), -2);
    due("outside", x.ofThrower(0, 5), -2);
    int[] kinds = {0, 1, 2, 1, 2};
    int[] arms = {4, 4, 4, 9, 9};
    int[] reaches = {4, 5, 8, 10, 18};
    for (int t = 0; t < 5; t++) {
      due("kind of " + t, x.ofThrower(t, 0), kinds[t]);
      due("arm of " + t, x.ofThrower(t, 1), arms[t]);
      due("reach of " + t, x.ofThrower(t, 2), reaches[t]);
    }
    due("has none", x.ofThrower(0, 3), 0);
    x.hurl(0, 0);
    x.hurl(0, 1);
    x.hurl(0, 2);
    x.hurl(0, 0);
    due("has all", x.ofThrower(0, 3), 7);
    due("rings", x.ofThrower(0, 4), 4);
    x.hurl(1, 0);
    due("has two", x.ofThrower(0, 3), 6);
    due("has one", x.ofThrower(1, 3), 1);
    due("rings", x.ofThrower(1, 4), 1);
    x.lift(0);
    x.lift(0);
    due("has all again", x.ofThrower(0, 3), 7);
    due("rings", x.ofThrower(0, 4), 3);
  }

  private static void settings() {
    QuoitFeast x = new QuoitFeast();
    due("freeze without a dale", x.freeze(0), -3);
    due("freeze outside goes first", x.freeze(4), -2);
    read(x, "q1,51;r4");
    due("freeze", x.freeze(3), 1);
    due("freeze", x.freeze(0), 3);
    due("freeze", x.freeze(-1), -2);
    due("freeze", x.freeze(4), -2);
    due("frost", x.many(2), 0);
    due("lean", x.lean(0, 9), 1);
    due("lean", x.lean(0, 0), 9);
    due("lean", x.lean(0, 10), -2);
    due("lean", x.lean(0, -1), -2);
    due("lean", x.lean(1, 10), -1);
    due("leaning", x.ofGirl(0, 1), 0);
    due("place", x.place(0, 9), 5);
    due("place", x.place(0, 1), 9);
    due("place", x.place(0, 0), -2);
    due("place", x.place(0, 10), -2);
    due("place", x.place(-1, 0), -1);
    due("yards", x.ofGirl(0, 0), 1);
    due("train", x.train(0, 9), 4);
    due("train", x.train(0, 1), 9);
    due("train", x.train(0, 0), -2);
    due("train", x.train(0, 10), -2);
    due("train", x.train(1, 0), -1);
    due("arm", x.ofThrower(0, 1), 1);
  }

  private static void measures() {
    QuoitFeast x = dale("q2,51,30;r4;l4;s4;r9");
    int[][] want = {{0, 3}, {0, 4}, {5, 7}, {6, 8}};
    for (int t = 0; t < 4; t++) {
      for (int g = 0; g < 2; g++) due("measure " + t + " " + g, x.measure(t, g), want[t][g]);
    }
    due("unknown", x.measure(4, 0), -1);
    due("unknown", x.measure(0, 2), -1);
    due("unknown", x.measure(-1, -1), -1);
    x.lean(0, 3);
    due("off by just the lean", x.measure(2, 0), 0);
    x.lean(0, 2);
    due("off by one more", x.measure(2, 0), 5);
    for (int r = 0; r < 8; r++) x.hurl(0, 0);
    due("with eight rings, too", x.measure(2, 0), 5);
    due("nothing is thrown", x.many(3), 8);
    QuoitFeast y = dale("q3,10;s9");
    due("the most", y.measure(0, 0), 20);
    y.freeze(0);
    y.place(0, 9);
    y.train(0, 5);
    due("no frost", y.measure(0, 0), 1);
  }

  private static void hurls() {
    QuoitFeast x = dale("q1,51,30;r4;r9");
    due("unknown", x.hurl(2, 0), -1);
    due("unknown", x.hurl(0, 2), -1);
    due("unknown", x.hurl(-1, 0), -1);
    for (int r = 0; r < 8; r++) due("hurl", x.hurl(1, 0), 5);
    due("full", x.hurl(0, 0), -4);
    due("unknown goes first", x.hurl(2, 0), -1);
    due("rings", x.ofGirl(0, 2), 8);
    due("no ringer came", x.ofGirl(0, 5), 0);
    due("another girl", x.hurl(0, 1), 2);
    x.lift(0);
    due("room again", x.hurl(0, 0), 0);
    due("full again", x.hurl(0, 0), -4);
    due("has her", x.ofGirl(0, 3), 0);
  }

  private static void liftsAndClears() {
    QuoitFeast x = dale("q1,51,30;r4;r9");
    due("unknown", x.lift(2), -1);
    due("unknown", x.lift(-1), -1);
    due("nothing lies", x.lift(0), -3);
    x.hurl(0, 0);
    x.hurl(1, 0);
    x.hurl(1, 1);
    due("the last", x.lift(0), 1);
    due("the one before", x.lift(0), 0);
    due("nothing lies", x.lift(0), -3);
    due("the other girl's stay", x.many(3), 1);
    x.hurl(0, 0);
    x.hurl(0, 0);
    due("clear", x.clear(0), 2);
    due("clear", x.clear(0), 0);
    due("clear", x.clear(2), -1);
    due("clear", x.clear(-1), -1);
    due("nobody has her", x.ofGirl(0, 3), -9);
    due("clear", x.clear(1), 1);
    due("no ring", x.many(3), 0);
  }

  private static void feasts() {
    QuoitFeast x = dale("q1,51,30,92;r4;l4;s4;r9");
    x.hurl(0, 1);
    int[] all = {1, 0, 3, 10, 0, 0, 3, 0, 0, 0, 2, 2, 1, 11, 3, 1};
    due("held", feast(x, 0, all), 3);
    due("first wrong", feast(x, 1, all), -9);
    due("ringers", feast(x, 2, all), 4);
    due("on ringers", feast(x, 3, all), 2);
    due("frost", feast(x, 4, all), 3);
    due("holder 0", feast(x, 10, all), 0);
    due("holder 1", feast(x, 11, all), 3);
    due("holder 2", feast(x, 12, all), 2);
    due("no such girl", feast(x, 13, all), -9);
    due("nothing is changed", x.many(2), 1);
    due("nothing is changed", x.many(3), 1);
    due("nothing is changed", x.ofGirl(1, 3), 0);
    x.hurl(0, 0);
    due("on a ringer that lay before", feast(x, 3, 1, 0), 1);
    due("only those of the feast", feast(x, 2, 1, 0), 1);
    due("with one between, on all others", feast(x, 3, 3, 0, 1, 0), 1);
    due("cleared, on none", feast(x, 3, 0, 11, 1, 0), 0);
    due("one that is no ringer is on none", feast(x, 3, 3, 0), 0);
    due("no such girl is cleared", feast(x, 0, 0, 0, 3, 11), -101);
    due("no such girl", feast(x, 1, 0, 0, 0, 1, 0, 3), 2);
    due("wrong for all asked", feast(x, 13, 0, 0, 0, 1, 0, 3), -102);
    int[] nine = new int[18];
    due("eight rings lie", feast(x, 1, nine), 7);
    due("eight rings lie", feast(x, 4, nine), -107);
    nine[12] = 0;
    nine[13] = 11;
    due("cleared in between", feast(x, 1, nine), -9);
    for (int r = 0; r < 7; r++) x.hurl(3, 0);
    due("eight lie at first", feast(x, 0, 0, 0), -100);
    due("none is full that is cleared", feast(x, 10, 0, 11, 3, 0), 3);
    due("nobody has her", feast(x, 10, 0, 11), -9);
    row(x, 1, 0, 99, 3, 10, 2, 10);
    due("from the midst", x.feast(1, 0, 1, 1, 4), 3);
    due("from the midst", x.feast(1, 0, 1, 2, 4), 2);
    due("none at the end", x.feast(1, 0, 5, 0, 4), 1);
  }

  private static void feastRefusals() {
    QuoitFeast x = new QuoitFeast();
    row(x, 0, 1, 0, 0, 9, 9);
    due("no sheet", x.feast(4, 9, 0, 0, 9), -1);
    due("no sheet", x.feast(-1, 0, 0, 0, 0), -1);
    due("lane", x.feast(0, 3, 0, 0, 0), -2);
    due("n", x.feast(0, 1, 0, -1, 0), -2);
    due("n", x.feast(0, 1, 0, 21, 0), -2);
    due("n", x.feast(0, 1, 0, MIN, 0), -2);
    due("what", x.feast(0, 1, 0, 0, -1), -2);
    due("what", x.feast(0, 1, 0, 0, 5), -2);
    due("what", x.feast(0, 1, 0, 0, 9), -2);
    due("what", x.feast(0, 1, 0, 0, 14), -2);
    due("outside goes first", x.feast(1, 1, 0, 0, 14), -2);
    due("fault", x.fault(), 0);
    due("cast", x.feast(0, 2, 9, 1, 0), -12);
    due("null", x.feast(1, 2, 9, 1, 0), -11);
    due("index", x.feast(0, 1, -1, 0, 0), -13);
    due("index", x.feast(0, 1, 5, 0, 0), -13);
    due("index", x.feast(0, 1, 0, 3, 0), -13);
    due("index", x.feast(0, 1, 3, 1, 0), -13);
    due("index", x.feast(0, 1, MAX, 20, 0), -13);
    due("fault", x.fault(), 3);
    due("no dale", x.feast(0, 1, 0, 2, 0), -3);
    due("fault", x.fault(), 0);
    read(x, "q0,50;r4");
    due("pairs", x.feast(0, 1, 0, 2, 0), -2);
    due("pairs that are not told are free", x.feast(0, 1, 0, 1, 0), 1);
    due("second", feast(x, 0, 0, 4), -2);
    due("second", feast(x, 0, 0, 9), -2);
    due("second", feast(x, 0, 0, 12), -2);
    due("second", feast(x, 0, 0, -1), -2);
    due("frost", feast(x, 0, 4, 10), -2);
    due("frost", feast(x, 0, -1, 10), -2);
    due("girl", feast(x, 0, 4, 11), -2);
    due("girl", feast(x, 0, -1, 11), -2);
    due("thrower", feast(x, 0, 1, 0), -1);
    due("thrower", feast(x, 0, -1, 3), -1);
    due("pair by pair", feast(x, 0, 0, 0, 4, 10), -2);
    due("pair by pair", feast(x, 0, 1, 0, 0, 9), -1);
    due("pair by pair", feast(x, 0, 0, 9, 1, 0), -2);
    due("refusals go before the first wrong", feast(x, 1, 0, 3, 0, 9), -2);
    int[] most = new int[40];
    for (int p = 0; p < 20; p++) most[2 * p + 1] = 10;
    due("twenty pairs", feast(x, 1, most), -9);
  }

  private static void wins() {
    QuoitFeast x = dale("q1,51,30,92;r4;l4;s4;r9");
    due("unknown", x.wins(4), -1);
    due("unknown", x.wins(-1), -1);
    for (int t = 0; t < 4; t++) due("all, where none lies", x.wins(t), 7);
    x.hurl(1, 0);
    x.hurl(0, 1);
    x.hurl(2, 2);
    due("wins", x.wins(0), 3);
    due("wins", x.wins(1), 1);
    due("wins", x.wins(2), 4);
    due("wins", x.wins(3), 4);
    x.train(0, 9);
    due("whom he has he keeps", x.wins(0), 6);
    due("nothing is thrown", x.many(3), 3);
    for (int r = 0; r < 7; r++) x.hurl(3, 0);
    due("eight rings lie", x.wins(1), 0);
    x.clear(0);
    x.clear(1);
    x.hurl(3, 0);
    x.train(0, 9);
    due("even is not enough", x.wins(0) & 1, 0);
    due("his own is", x.wins(3) & 1, 1);
  }

  private static void matches() {
    QuoitFeast x = new QuoitFeast();
    due("outside goes first", x.match(5), -2);
    due("no dale", x.match(-2), -3);
    read(x, "q1,51,30,92;r4;l4;s4;r9");
    due("outside", x.match(-3), -2);
    due("outside", x.match(5), -2);
    due("girls", x.match(-2), 3);
    due("measures", x.match(-1), 2);
    int[] row = {1, 0, 2, -9, -9};
    for (int t = 0; t < 5; t++) due("match " + t, x.match(t), row[t]);
    read(x, "q0,50,50;r5;r5;r5");
    int[] first = {0, 1, -9, -9, -9};
    for (int t = 0; t < 5; t++) due("first row " + t, x.match(t), first[t]);
    due("measures", x.match(-1), 0);
    read(x, "q0,50;r1;r2;r4;r5;r9");
    due("one girl", x.match(-2), 1);
    due("the nearest", x.match(3), 0);
    due("none", x.match(0), -9);
    for (int r = 0; r < 8; r++) x.hurl(3, 0);
    due("nobody wins", x.match(-2), 0);
    due("nobody wins", x.match(-1), 0);
    due("nobody wins", x.match(3), -9);
    read(x, "q0,50,20;r5;r9");
    x.hurl(0, 1);
    due("many before near", x.match(-2), 2);
    due("many before near", x.match(-1), 7);
    due("he makes room", x.match(0), 1);
    read(x, "q3,90,10;s9;r1");
    due("many outweigh far", x.match(-2), 2);
    due("far together", x.match(-1), 12);
  }

  private static void weddings() {
    QuoitFeast x = dale("q1,51,30,92;r4;l4;s4;r9");
    int[] row = {0, 1, 2, -9};
    for (int t = 0; t < 4; t++) due("weds " + t, x.weds(t), row[t]);
    due("unknown", x.weds(4), -1);
    due("unknown", x.weds(-1), -1);
    due("without a dale", new QuoitFeast().weds(0), -1);
    read(x, "q0,50,40,30,20;r5;r5");
    due("the near one", x.weds(0), 0);
    due("the next", x.weds(1), 1);
    read(x, "q0,50,50;r9;r5;r5");
    due("refused by all", x.weds(0), -9);
    due("the lesser of girls", x.weds(1), 0);
    due("the lesser of throwers", x.weds(2), 1);
    for (int r = 0; r < 8; r++) x.hurl(1, 0);
    due("rings do not count", x.weds(1), 0);
    read(x, "q0,30;r5;r4;r3");
    due("one is left for a nearer one", x.weds(0), -9);
    due("and he for a nearer one still", x.weds(1), -9);
    due("the nearest", x.weds(2), 0);
  }

  private static void evens() {
    QuoitFeast x = dale("q1,51,30;r4;l4;s4;r9");
    due("near by", x.even(0, 1, 0), 5);
    due("none", x.even(0, 1, 1), -9);
    due("none of two even", x.even(1, 0, 1), -9);
    due("in the midst", x.even(0, 2, 0), 6);
    due("either way round", x.even(2, 0, 0), 6);
    due("unknown", x.even(4, 0, 0), -1);
    due("unknown", x.even(0, 4, 0), -1);
    due("both the same", x.even(1, 1, 0), -1);
    due("unknown girl", x.even(0, 1, 2), -1);
    due("unknown", x.even(-1, -1, 0), -1);
    due("nothing is changed", x.ofGirl(0, 0), 5);
    QuoitFeast y = dale("q0,50;r4;r6");
    due("where she stands", y.even(0, 1, 0), 5);
    y.train(0, 5);
    y.train(1, 5);
    due("like ones", y.even(0, 1, 0), 5);
    QuoitFeast z = dale("q0,51;r3;r3;r2;s9");
    z.place(0, 9);
    due("like ones where she stands", z.even(0, 1, 0), 9);
    due("none up to 9", z.even(2, 3, 0), -9);
    z.lean(0, 9);
    z.place(0, 1);
    due("both ringers, the nearest", z.even(2, 3, 0), 9);
  }

  private static void readings() {
    QuoitFeast x = dale("q1,51,30;r4;l4");
    due("unknown", x.reading(2, 0, 99), -1);
    due("unknown", x.reading(0, 2, 0), -1);
    due("outside", x.reading(0, 0, 21), -2);
    due("outside", x.reading(0, 0, -1), -2);
    for (int r = 0; r < 8; r++) due("number", x.reading(0, 0, r % 2 * 20), r);
    due("full", x.reading(0, 0, 0), -4);
    due("outside goes first", x.reading(0, 0, 21), -2);
    due("many", x.many(4), 8);
    due("back", x.back(-1), -2);
    due("back", x.back(9), -2);
    due("back", x.back(0), 8);
    due("back", x.back(3), 5);
    due("back", x.back(6), -2);
    due("number", x.reading(1, 1, 3), 5);
    due("back", x.back(6), 0);
    due("back", x.back(1), -2);
    due("back", x.back(MIN), -2);
    due("back", new QuoitFeast().back(0), 0);
  }

  private static void leansArmsKinds() {
    QuoitFeast x = dale("q1,51,30,92;r4;l4;s4;r9");
    due("unknown", x.leans(3), -1);
    due("unknown", x.arms(4), -1);
    due("unknown", x.kinds(4), -1);
    due("unknown", x.leans(-1), -1);
    due("unknown", x.arms(-1), -1);
    due("unknown", x.kinds(-1), -1);
    due("all leans", x.leans(0), 1023);
    due("all arms", x.arms(0), 1022);
    due("all kinds", x.kinds(0), 7);
    x.reading(0, 0, 0);
    due("leans", x.leans(0), 1022);
    due("arms", x.arms(0), 112);
    due("kinds", x.kinds(0), 3);
    x.reading(1, 1, 3);
    due("leans", x.leans(1), 3);
    due("arms", x.arms(1), 16);
    due("kinds", x.kinds(1), 2);
    x.lean(0, 0);
    due("another's reading is not so", x.leans(1), 0);
    due("hers alone may lean otherwise", x.leans(0), 1022);
    x.lean(0, 1);
    x.freeze(2);
    due("as frost is", x.leans(1), 0);
    x.freeze(1);
    x.place(1, 4);
    due("as yards are", x.arms(1), (1 << 1) | (1 << 5));
    x.place(1, 3);
    x.train(0, 9);
    due("arms, whatever his is", x.arms(1), 0);
    due("arms, whatever his is", x.arms(0), 112);
    due("nothing is changed", x.ofThrower(0, 1), 9);
    QuoitFeast y = dale("q0,60,40;r5;s3");
    y.reading(0, 0, 1);
    y.reading(0, 1, 1);
    due("both readings at once", y.arms(0), 32);
    due("both readings at once", y.kinds(0), 1);
    y.reading(1, 0, 0);
    due("strangers reach twice", y.arms(1), 8);
    due("strangers alone", y.kinds(1), 4);
    due("others' readings, too", y.arms(0), 32);
  }

  private static void odds() {
    long lost = Long.MIN_VALUE;
    QuoitFeast x = dale("q1,51,30,92;r4;l4;s4;r9");
    due("unknown", x.odds(4, 0, 0), lost);
    due("unknown", x.odds(0, 3, 0), lost);
    due("outside", x.odds(0, 0, 2), lost);
    due("outside", x.odds(0, 0, -1), lost);
    due("sure", x.odds(3, 1, 0), 1);
    due("sure", x.odds(3, 1, 1), 1);
    x.hurl(1, 0);
    due("two of three", x.odds(0, 0, 0), 2);
    due("two of three", x.odds(0, 0, 1), 3);
    due("none of three", x.odds(3, 0, 0), 0);
    due("none of three", x.odds(3, 0, 1), 1);
    x.hurl(0, 1);
    due("even is not enough", x.odds(1, 1, 0), 0);
    x.train(1, 3);
    due("one of three", x.odds(1, 1, 0), 1);
    due("one of three", x.odds(1, 1, 1), 3);
    for (int r = 0; r < 7; r++) x.hurl(1, 0);
    due("eight rings lie", x.odds(1, 0, 0), 0);
    due("eight rings lie", x.odds(1, 0, 1), 1);
    due("nothing is thrown", x.ofGirl(0, 2), 8);
    QuoitFeast y = dale("q0,10;r1;r2");
    y.hurl(1, 0);
    due("a reach of nothing is even", y.odds(0, 0, 0), 1);
    due("a reach of nothing is even", y.odds(0, 0, 1), 3);
  }

  private static void sheets() {
    QuoitFeast x = new QuoitFeast();
    due("unknown", x.sheet(4, 9, -1), -1);
    due("unknown", x.sheet(-1, 0, 0), -1);
    due("lane", x.sheet(0, 3, -1), -2);
    due("lane", x.sheet(0, -1, 1), -2);
    due("above 60", x.sheet(0, 0, 61), -2);
    due("above 60", x.sheet(0, 0, MAX), -2);
    due("fault", x.fault(), 0);
    due("size", x.sheet(0, 0, -1), -14);
    due("fault", x.fault(), 4);
    due("size", x.sheet(0, 0, MIN), -14);
    due("still nothing", x.lose(0), 0);
    due("sixty", x.sheet(0, 0, 60), 1);
    due("fault", x.fault(), 0);
    due("last", x.put(0, 59, 7), 1);
    due("beyond", x.put(0, 60, 7), -13);
    due("anew", x.sheet(0, 0, 60), 1);
    due("0 at first", x.cell(0, 59, 0), 0);
    x.put(0, 0, 7);
    x.sheet(0, 0, 1);
    due("0 at first", x.cell(0, 0, 0), 0);
    due("none", x.sheet(0, 2, 0), 1);
    due("none to put", x.put(0, 0, 7), -13);
    due("lose", x.lose(0), 1);
    due("lose", x.lose(0), 0);
    due("lose", x.lose(4), -1);
    due("lose", x.lose(-1), -1);
    due("nothing", x.cell(0, 0, 2), Long.MIN_VALUE);
    due("fault", x.fault(), 1);
    x.sheet(0, 1, 3);
    x.put(0, 1, 5);
    due("refused", x.sheet(0, 1, -3), -14);
    due("the row stays", x.cell(0, 1, 1), 5);
  }

  private static void cells() {
    long lost = Long.MIN_VALUE;
    QuoitFeast x = new QuoitFeast();
    due("unknown", x.put(4, 0, 0), -1);
    due("null", x.put(0, -1, 0), -11);
    due("fault", x.fault(), 1);
    for (int lane = 0; lane < 3; lane++) x.sheet(lane, lane, 2);
    int[] values = {127, 128, 255, -129, 32767, 32768, 65535, MIN, MAX};
    for (int v : values) {
      for (int lane = 0; lane < 3; lane++) x.put(lane, 1, v);
      due("byte", x.cell(0, 1, 0), (byte) v);
      due("short", x.cell(1, 1, 1), (short) v);
      due("int", x.cell(2, 1, 2), v);
    }
    due("put index", x.put(0, -1, 0), -13);
    due("put index", x.put(0, 2, 0), -13);
    due("fault", x.fault(), 3);
    due("unknown", x.cell(-1, 0, 0), lost);
    due("fault", x.fault(), 0);
    due("lane", x.cell(0, 0, 3), lost);
    due("fault", x.fault(), 0);
    due("lane", x.cell(3, 0, -1), lost);
    due("fault", x.fault(), 0);
    due("cast", x.cell(0, 9, 1), lost);
    due("fault", x.fault(), 2);
    due("nothing is no cast", x.cell(3, 9, 1), lost);
    due("fault", x.fault(), 1);
    due("index", x.cell(0, 2, 0), lost);
    due("fault", x.fault(), 3);
    due("index", x.cell(0, MIN, 0), lost);
    due("fault", x.fault(), 3);
    due("cell", x.cell(0, 0, 0), 0);
    due("fault", x.fault(), 0);
  }

  private static void copies() {
    QuoitFeast x = new QuoitFeast();
    due("unknown", x.copy(4, 0, 0, 0, 0), -1);
    due("unknown", x.copy(0, 0, -1, 0, 0), -1);
    due("null", x.copy(0, -1, 1, -1, -1), -11);
    row(x, 0, 1, 1, 2, 3, 4, 5);
    due("null, the other", x.copy(0, 0, 1, 0, 0), -11);
    due("null, the first", x.copy(1, 0, 0, 0, 0), -11);
    row(x, 1, 2, 6, 7);
    due("cast", x.copy(0, -1, 1, -1, -1), -12);
    due("fault", x.fault(), 2);
    row(x, 1, 1, 6, 7);
    due("index", x.copy(0, -1, 1, 0, 0), -13);
    due("index", x.copy(0, 6, 1, 0, 0), -13);
    due("index", x.copy(0, 0, 1, -1, 0), -13);
    due("index", x.copy(0, 0, 1, 3, 0), -13);
    due("index", x.copy(0, 0, 1, 0, -1), -13);
    due("index", x.copy(0, 0, 1, 0, 3), -13);
    due("index", x.copy(1, 0, 0, 0, 3), -13);
    due("index", x.copy(0, MAX, 1, MAX, MAX), -13);
    due("fault", x.fault(), 3);
    due("none at the ends", x.copy(0, 5, 1, 2, 0), 0);
    due("fault", x.fault(), 0);
    due("two", x.copy(0, 3, 1, 0, 2), 2);
    due("copied", x.cell(1, 0, 1), 4);
    due("copied", x.cell(1, 1, 1), 5);
    due("onward", x.copy(0, 0, 0, 1, 4), 4);
    int[] onward = {1, 1, 2, 3, 4};
    for (int i = 0; i < 5; i++) due("onward " + i, x.cell(0, i, 1), onward[i]);
    due("backward", x.copy(0, 2, 0, 0, 3), 3);
    int[] backward = {2, 3, 4, 3, 4};
    for (int i = 0; i < 5; i++) due("backward " + i, x.cell(0, i, 1), backward[i]);
  }

  private static void tellings() {
    QuoitFeast x = dale("q1,51;r4;l4;s4");
    int trace = 0;
    due("unknown", x.tell(3), -1);
    due("unknown", x.cheer(-1), -1);
    due("trace", x.trace(), 0);
    due("right", x.tell(0), 4);
    due("trace", x.trace(), trace = 1);
    due("left", x.tell(1), 104);
    due("trace", x.trace(), trace = (trace * 31 + 2) * 31 + 1);
    due("stranger", x.tell(2), 108);
    due("trace", x.trace(), trace = (((trace * 31 + 3) * 31 + 2) * 31 + 1) * 31 + 1);
    due("lent", x.cheer(0), 0);
    due("trace", x.trace(), trace = trace * 31 + 4);
    due("lent", x.cheer(1), 1);
    due("trace", x.trace(), trace = trace * 31 + 4);
    due("his own", x.cheer(2), 50);
    due("trace", x.trace(), trace = trace * 31 + 5);
    x.train(2, 9);
    due("stranger", x.tell(2), 118);
  }

  private static void kindsTaken() {
    QuoitFeast x = dale("q1,51;r4;l4;s4");
    for (int t = 0; t < 3; t++) {
      for (int kind = 0; kind < 3; kind++) {
        due("as " + t + " " + kind, x.as(t, kind), kind <= t ? 1 : -12);
        due("fault", x.fault(), kind <= t ? 0 : 2);
      }
    }
    due("unknown", x.as(3, 3), -1);
    due("outside", x.as(0, 3), -2);
    due("outside", x.as(0, -1), -2);
    due("fault", x.fault(), 0);
  }

  private static void faults() {
    QuoitFeast x = dale("q1,51;r4");
    x.as(0, 1);
    x.hurl(9, 9);
    x.lose(9);
    x.many(9);
    x.trace();
    x.lift(0);
    x.odds(9, 9, 9);
    due("calls that name no fault leave it", x.fault(), 2);
    due("asked twice", x.fault(), 2);
    x.put(9, 0, 0);
    due("a refusal makes it 0", x.fault(), 0);
    x.as(0, 1);
    x.as(9, 1);
    due("a refusal makes it 0", x.fault(), 0);
    x.as(0, 1);
    x.copy(9, 0, 0, 0, 0);
    due("a refusal makes it 0", x.fault(), 0);
    x.as(0, 1);
    x.sheet(0, 0, 61);
    due("a refusal makes it 0", x.fault(), 0);
    x.as(0, 1);
    x.dale(9, 0, 0, 0);
    due("a refusal makes it 0", x.fault(), 0);
    x.as(0, 1);
    x.feast(9, 0, 0, 0, 0);
    due("a refusal makes it 0", x.fault(), 0);
  }

  private static void many() {
    QuoitFeast x = dale("q2,51,30;r4;r5;r6");
    x.hurl(0, 0);
    x.hurl(1, 1);
    x.hurl(1, 1);
    x.reading(0, 0, 0);
    int[] want = {2, 3, 2, 3, 1};
    for (int what = 0; what < 5; what++) due("many " + what, x.many(what), want[what]);
    due("many", x.many(-1), -2);
    due("many", x.many(5), -2);
  }

  private static void constants() {
    due("UNKNOWN", QuoitFeast.UNKNOWN, -1);
    due("OUTSIDE", QuoitFeast.OUTSIDE, -2);
    due("STATE", QuoitFeast.STATE, -3);
    due("FULL", QuoitFeast.FULL, -4);
    due("NONE", QuoitFeast.NONE, -9);
    due("LOST", QuoitFeast.LOST, Long.MIN_VALUE);
  }
}
