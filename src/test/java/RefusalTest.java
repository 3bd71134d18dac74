/**
 * 'Refused calls answer by a code and change nothing': every refusal that the document names is
 * called on an object with all kinds of state, beside a twin that isn't called; then all that can be
 * seen of both, to the last undone call, image, tray and byte on the tape, must be the same. Nor do
 * calls that only ask change anything.
 */
public final class RefusalTest {
  private static final int MIN = Integer.MIN_VALUE;
  private static final int MAX = Integer.MAX_VALUE;
  /** The tray that stays MISSING, the image that isn't made. */
  private static final int MISSING = 3;
  private static final int UNMADE = 1;

  private interface Call {
    long on(TitheHeap x);
  }

  private static final String UNTOUCHED = seen(rich());

  public static void main(String[] args) {
    theBarn();
    deeds();
    going();
    withSomeSpared();
    counted();
    byTurnsAndChances();
    traysAndImages();
    fullTape();
    faults();
    askingCalls();
    Say.end("RefusalTest");
  }

  /** Heaps (2,2,1,1) in SEASON 5, three calls to undo, trays of each kind, an image, a text on the tape. */
  private static TitheHeap rich() {
    TitheHeap x = Say.told("barn season 2;heap 2;heap 1;heap 3;gives:1;may:season<9;");
    Say.tell(x, "barn season 1;heap 0;");
    x.moon(2);
    x.image(0);
    x.season(5);
    x.moon(2);
    Say.fill(x, 0, 0, 3, 2, 1);
    Say.fill(x, 1, 3, 0, 24, 1L << 40, 3);
    Say.fill(x, 2, 1, -1, 3, -1);
    Say.feed(x, "barn season 7;heap 4;gives:2;");
    return x;
  }

  private static void counts(TitheHeap x, StringBuilder b) {
    b.append(" counts");
    for (int what = 0; what < 8; what++) {
      b.append(' ').append(x.count(what));
    }
    for (int place = 0; place <= x.count(1); place++) {
      b.append(' ').append(x.heap(place)).append('/').append(x.gives(place));
    }
  }

  /** All that can be seen of an object, which is used up by it. */
  private static String seen(TitheHeap x) {
    StringBuilder b = new StringBuilder();
    b.append(x.fault(0)).append(' ').append(x.fault(1));
    counts(x, b);
    for (int tray = 0; tray < 4; tray++) {
      b.append(" tray ").append(tray);
      for (int what = 0; what < 4; what++) {
        b.append(' ').append(x.judge(tray, what));
      }
      b.append(' ').append(x.number(tray)).append(' ').append(x.counted(tray)).append(' ').append(x.seasons(tray));
      for (int i = 0; i < 6; i++) {
        b.append(' ').append(x.write(tray, i, 0x123456789abcdefL));
      }
    }
    b.append(" undone");
    for (int i = 0; i < 11; i++) {
      b.append(' ').append(x.undo(1));
      counts(x, b);
    }
    b.append(" barn ").append(x.barn(Math.min(40, x.count(6))));
    counts(x, b);
    for (int i = 0; i < 2; i++) {
      b.append(" image ").append(x.restore(i));
      counts(x, b);
    }
    return b.toString();
  }

  private static void refused(String name, long code, Call call) {
    TitheHeap x = rich();
    Say.due(name, call.on(x), code);
    String then = seen(x);
    Say.must(then.equals(UNTOUCHED), name + " changed\n  " + UNTOUCHED + "\nto\n  " + then);
  }

  private static void asks(String name, Call call) {
    TitheHeap x = rich();
    long answer = call.on(x);
    Say.must(answer >= -1, name + " is refused by " + answer);
    Say.due(name + " a second time", call.on(x), answer);
    String then = seen(x);
    Say.must(then.equals(UNTOUCHED), name + " changed\n  " + UNTOUCHED + "\nto\n  " + then);
  }

  private static void theBarn() {
    Say.says(Say.TERMS, "Refused calls answer by a code and change nothing");
    int[] lengths = {-1, 41, MIN, MAX};
    for (int n : lengths) {
      refused("barn(" + n + ")", -3, x -> x.barn(n));
    }
    refused("heap(-1)", -3, x -> x.heap(-1));
    refused("gives(-1)", -2, x -> x.gives(-1));
    refused("gives(4)", -2, x -> x.gives(4));
    refused("by(0, 3)", -2, x -> x.by(0, 3));
    refused("by(0, -1)", -2, x -> x.by(0, -1));
    refused("by(3, 0)", -5, x -> x.by(3, 0));
    refused("by(19, 0)", -5, x -> x.by(19, 0));
  }

  private static void deeds() {
    int[] noMoons = {-1, 19, 20, MIN, MAX};
    for (int deed : noMoons) {
      refused("moon(" + deed + ")", -11, x -> x.moon(deed));
    }
    refused("moon(3)", -12, x -> x.moon(3));
    refused("moon(18)", -12, x -> x.moon(18));
    int[] noNumbers = {-1, 0, 100, MIN, MAX};
    for (int n : noNumbers) {
      refused("moons(" + n + ")", -3, x -> x.moons(n));
    }
    refused("split(2, 2)", -11, x -> x.split(2, 2));
    refused("split(2, 0)", -11, x -> x.split(2, 0));
    refused("split(19, 1)", -11, x -> x.split(19, 1));
    refused("split(3, 1)", -12, x -> x.split(3, 1));
    refused("join(2, 0)", -11, x -> x.join(2, 0));
    refused("join(19, 2)", -11, x -> x.join(19, 2));
    refused("join(2, 3)", -12, x -> x.join(2, 3));
    refused("join(3, 2)", -12, x -> x.join(3, 2));
    refused("join(4, 4)", -12, x -> x.join(4, 4));
    refused("season(10)", -11, x -> x.season(10));
    refused("season(-1)", -11, x -> x.season(-1));
    int[] noCalls = {-1, 0, 4, 10, 11, MIN, MAX};
    for (int n : noCalls) {
      refused("undo(" + n + ")", -3, x -> x.undo(n));
    }
    refused("judge(4, 0)", -2, x -> x.judge(4, 0));
    refused("judge(1, 4)", -2, x -> x.judge(1, 4));
    refused("judge(MISSING, 0)", -6, x -> x.judge(MISSING, 0));
    refused("perform(4)", -2, x -> x.perform(4));
    refused("perform(-1)", -2, x -> x.perform(-1));
    refused("perform(MISSING)", -6, x -> x.perform(MISSING));
    refused("year(1, 0)", -3, x -> x.year(1, 0));
    refused("year(1, 41)", -3, x -> x.year(1, 41));
  }

  private static void going() {
    refused("at(-1)", -3, x -> x.at(-1));
    refused("at(10^15 + 1)", -3, x -> x.at(1000000000000001L));
    refused("round(2)", -2, x -> x.round(2));
    refused("all(6)", -2, x -> x.all(6));
    refused("ahead(10)", -3, x -> x.ahead(10));
    refused("ahead(-1)", -3, x -> x.ahead(-1));
  }

  private static void withSomeSpared() {
    int[] trays = {4, MISSING, 1, 2};
    int[] codes = {-2, -6, -3, -3};
    for (int i = 0; i < trays.length; i++) {
      int tray = trays[i];
      refused("soonest(" + tray + ")", codes[i], x -> x.soonest(tray));
      refused("way(" + tray + ", 0)", codes[i], x -> x.way(tray, 0));
      refused("number(" + tray + ")", codes[i], x -> x.number(tray));
      refused("under(" + tray + ")", codes[i], x -> x.under(tray));
    }
    refused("way(0, -1)", -3, x -> x.way(0, -1));
    refused("rows(0, 1)", -3, x -> x.rows(0, 1));
    refused("rows(19, 1)", -3, x -> x.rows(19, 1));
    refused("rows(1, 10)", -3, x -> x.rows(1, 10));
    refused("keeps(0)", -3, x -> x.keeps(0));
    refused("keeps(19)", -3, x -> x.keeps(19));
    refused("bounded(0, 1)", -3, x -> x.bounded(0, 1));
    refused("bounded(1, 19)", -3, x -> x.bounded(1, 19));
  }

  private static void counted() {
    int[] trays = {4, MISSING, 1};
    int[] codes = {-2, -6, -3};
    for (int i = 0; i < trays.length; i++) {
      int tray = trays[i];
      refused("counted(" + tray + ")", codes[i], x -> x.counted(tray));
      refused("countedBy(" + tray + ", 0)", codes[i], x -> x.countedBy(tray, 0));
      refused("spared(" + tray + ", 0)", codes[i], x -> x.spared(tray, 0));
      refused("seasons(" + tray + ")", codes[i], x -> x.seasons(tray));
      refused("attempt(" + tray + ")", codes[i], x -> x.attempt(tray));
    }
    refused("seasons(2)", -3, x -> x.seasons(2));
    refused("attempt(2)", -3, x -> x.attempt(2));
    refused("countedBy(2, -1)", -3, x -> x.countedBy(2, -1));
    refused("spared(2, -1)", -3, x -> x.spared(2, -1));
    refused("spared(2, 3)", -7, x -> x.spared(2, 3));
  }

  private static void byTurnsAndChances() {
    refused("forces(0)", -3, x -> x.forces(0));
    refused("forces(19)", -3, x -> x.forces(19));
    refused("best(0)", -3, x -> x.best(0));
    refused("best(19)", -3, x -> x.best(19));
    refused("takes(2)", -2, x -> x.takes(2));
    refused("chance(1, 1, 2)", -2, x -> x.chance(1, 1, 2));
    refused("chance(0, 1, 0)", -3, x -> x.chance(0, 1, 0));
    refused("chance(1, 8, 0)", -3, x -> x.chance(1, 8, 0));
    refused("mean(1, 2)", -2, x -> x.mean(1, 2));
    refused("mean(8, 0)", -3, x -> x.mean(8, 0));
  }

  private static void traysAndImages() {
    for (int t = 0; t < 4; t++) {
      int tray = t;
      refused("numbers(" + tray + ", 4, 1)", -2, x -> x.numbers(tray, 4, 1));
      refused("numbers(" + tray + ", -1, 1)", -2, x -> x.numbers(tray, -1, 1));
      refused("numbers(" + tray + ", 0, 41)", -3, x -> x.numbers(tray, 0, 41));
      refused("numbers(" + tray + ", 0, -1)", -3, x -> x.numbers(tray, 0, -1));
      refused("write(" + tray + ", 40, 1)", tray == MISSING ? -6 : -7, x -> x.write(tray, 40, 1));
      refused("write(" + tray + ", 4, 1)", tray == MISSING ? -6 : -7, x -> x.write(tray, 4, 1));
      refused("write(" + tray + ", -1, 1)", tray == MISSING ? -6 : -7, x -> x.write(tray, -1, 1));
      refused("lists(" + tray + ", 11)", tray == MISSING ? -6 : -3, x -> x.lists(tray, 11));
      refused("lists(" + tray + ", -1)", tray == MISSING ? -6 : -3, x -> x.lists(tray, -1));
    }
    refused("numbers(4, 0, 1)", -2, x -> x.numbers(4, 0, 1));
    refused("write(4, 0, 1)", -2, x -> x.write(4, 0, 1));
    refused("lists(4, 0)", -2, x -> x.lists(4, 0));
    refused("image(2)", -2, x -> x.image(2));
    refused("image(-1)", -2, x -> x.image(-1));
    refused("restore(2)", -2, x -> x.restore(2));
    refused("restore(-1)", -2, x -> x.restore(-1));
    refused("restore(UNMADE)", -5, x -> x.restore(UNMADE));
  }

  /** feed can only be refused where the tape is full, so it has twins of its own. */
  private static void fullTape() {
    TitheHeap x = rich();
    TitheHeap twin = rich();
    for (int i = x.count(6); i < 900; i += 20) {
      x.feed(0, 0, 0, 0, 0);
      twin.feed(0, 0, 0, 0, 0);
    }
    Say.due("feed", x.feed(-1, -1, -1, -1, -1), -5);
    String then = seen(x);
    String want = seen(twin);
    Say.must(then.equals(want), "feed changed\n  " + want + "\nto\n  " + then);
  }

  /** A text with a FAULT empties the tape and is told by fault(); all else stays. */
  private static void faults() {
    Say.says(3, "all stays with a FAULT");
    String[] texts = {"barn season 1,", "barn season 1;heap 4", "barn season 1;heap 4;heap 15;",
        "barn season 8;heap 4;gives:0;may:[[[[[[[1=1"};
    for (String text : texts) {
      TitheHeap x = rich();
      x.barn(0);
      TitheHeap twin = rich();
      twin.barn(0);
      Say.must(Say.tell(x, text) < -30, "no FAULT: " + text);
      Say.must(Say.tell(x, "") == -32, "nothing is a text");
      String then = seen(x);
      String want = seen(twin);
      Say.must(then.equals(want), text + " changed\n  " + want + "\nto\n  " + then);
    }
  }

  /** Calls that ask, whose answers may need other seasons, trays or rows of the object. */
  private static void askingCalls() {
    Say.says(14, "DEEDS, judged as if done");
    for (int w = 0; w < 4; w++) {
      int what = w;
      asks("judge(1, " + what + ")", x -> x.judge(1, what));
      asks("judge(0, " + what + ")", x -> x.judge(0, what));
    }
    Say.says(38, "TAKING");
    asks("takes(0)", x -> x.takes(0));
    asks("takes(1)", x -> x.takes(1));
    Say.says(34, "CALM: SEASONS, as bits.");
    asks("seasons(0)", x -> x.seasons(0));
    asks("attempt(0)", x -> x.attempt(0));
    Say.says(31, "COUNTED: how many ROWS.");
    asks("counted(2)", x -> x.counted(2));
    asks("countedBy(2, 2)", x -> x.countedBy(2, 2));
    asks("spared(2, 0)", x -> x.spared(2, 0));
    Say.says(17, "The STAND's number behind n MOONS GOING");
    asks("at(7)", x -> x.at(7));
    asks("by(2, 0)", x -> x.by(2, 0));
    asks("round(0)", x -> x.round(0));
    for (int w = 0; w < 6; w++) {
      int what = w;
      asks("all(" + what + ")", x -> x.all(what));
    }
    asks("ahead(9)", x -> x.ahead(9));
    Say.says(21, "TOLD: the fewest MOONS of a ROW");
    asks("soonest(0)", x -> x.soonest(0));
    asks("way(0, 0)", x -> x.way(0, 0));
    asks("rows(4, 9)", x -> x.rows(4, 9));
    asks("keeps(3)", x -> x.keeps(3));
    asks("stands()", x -> x.stands());
    asks("number(0)", x -> x.number(0));
    asks("bounded(3, 3)", x -> x.bounded(3, 3));
    asks("side()", x -> x.side());
    asks("under(0)", x -> x.under(0));
    asks("below()", x -> x.below());
    asks("forces(2)", x -> x.forces(2));
    asks("best(3)", x -> x.best(3));
    asks("chance(3, 7, 0)", x -> x.chance(3, 7, 0));
    asks("mean(7, 1)", x -> x.mean(7, 1));
  }
}
