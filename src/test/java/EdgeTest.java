import java.util.ArrayList;
import java.util.Arrays;
import java.util.List;

/**
 * Promise by promise, each sentence that names a boundary: the last number that is allowed and the
 * first that is not, on either side, what is empty, what is full, what wraps around, what is refused.
 */
public final class EdgeTest {
  private static final int BLANKS = 0x20202020;
  private static final int COMMAS = 0x2c2c2c2c;
  private static final long FAR = 1000000000000000L;

  public static void main(String[] args) {
    theBarn();
    deeds();
    going();
    withSomeSpared();
    amongAll();
    counted();
    byTurns();
    chances();
    traysAndImages();
    terms();
    Say.everyCodeWasAsked();
    Say.end("EdgeTest");
  }

  private static int feedFour(TitheHeap x, int four) {
    return x.feed(four, four, four, four, four);
  }

  private static void counts(TitheHeap x, int... want) {
    for (int what = 0; what < want.length; what++) {
      Say.due("count(" + what + ")", x.count(what), want[what]);
    }
  }

  // ---- the barn

  private static void theBarn() {
    Say.says(1, "One heap of 1.");
    TitheHeap x = new TitheHeap();
    Say.heaps(x, 1);
    counts(x, 1, 1, 0, 0, 0, 0, 0);
    for (int tray = 0; tray < 4; tray++) {
      Say.must(x.perform(tray) == -6, "TRAY " + tray + " is not MISSING");
    }
    Say.must(x.restore(0) == -5 && x.restore(1) == -5, "there is an IMAGE");
    feed();
    barnBounds();
    barnTape();
    barnState();
    fault();
    heap();
    gives();
    by();
  }

  private static void feed() {
    Say.says(2, "-5: it would have more than 900.");
    TitheHeap x = new TitheHeap();
    for (int i = 1; i <= 44; i++) {
      Say.due("feed", feedFour(x, BLANKS), 20 * i);
    }
    Say.due("feed up to 900", x.feed(0x6261726e, 0x20736561, 0x736f6e20, 0x343b2020, BLANKS), 900);
    Say.due("feed beyond", feedFour(x, COMMAS), -5);
    Say.due("feed beyond", feedFour(x, COMMAS), -5);
    Say.due("bytes", x.count(6), 900);
    Say.due("all of it", x.barn(900), 1);
    Say.due("SEASON", x.count(3), 4);
    Say.due("feed, as it is empty then", feedFour(x, BLANKS), 20);
    Say.says(2, "Twenty bytes come behind those on THE TAPE, the highest of each int first: how many it has.");
    x = new TitheHeap();
    // 255 is a byte like the others: no TOKEN, at the place where it is
    Say.due("feed", x.feed(0x6261726e, 0x20736561, 0x736f6e20, 0x343b20ff, -1), 20);
    Say.due("barn", x.barn(20), -31);
    Say.due("its place", x.fault(1), 15);
    Say.due("feed", x.feed(BLANKS, BLANKS, BLANKS, BLANKS, 0x6261726e), 20);
    Say.due("feed", x.feed(0x20736561, 0x736f6e20, 0x363b6865, 0x61702031, 0x373b2020), 40);
    Say.due("barn", x.barn(40), 2);
    counts(x, 17, 1, 0, 6);
  }

  private static void barnBounds() {
    Say.says(3, "-3: n is below 0 or above what there is (THE TAPE stays)");
    TitheHeap x = new TitheHeap();
    int[] bad = {-1, 1, Integer.MIN_VALUE, Integer.MAX_VALUE};
    for (int n : bad) {
      Say.due("barn(" + n + ") of an empty TAPE", x.barn(n), -3);
    }
    Say.feed(x, "barn season 4;");
    int[] badToo = {-1, 21, Integer.MIN_VALUE, Integer.MAX_VALUE};
    for (int n : badToo) {
      Say.due("barn(" + n + ") of 20 bytes", x.barn(n), -3);
      Say.due("bytes", x.count(6), 20);
    }
    Say.due("barn(20)", x.barn(20), 1);
    Say.due("SEASON", x.count(3), 4);
    for (int i = 0; i < 45; i++) {
      feedFour(x, BLANKS);
    }
    Say.due("barn(901) of 900 bytes", x.barn(901), -3);
    Say.due("bytes", x.count(6), 900);
    Say.due("barn(900)", x.barn(900), -32);
    Say.due("its place", x.fault(1), 900);
  }

  private static void barnTape() {
    Say.says(3, "The first n bytes of THE TAPE (which is empty then) are THE BARN");
    TitheHeap x = new TitheHeap();
    Say.feed(x, "barn season 4;heap 2;");
    Say.due("barn(14)", x.barn(14), 1);
    Say.due("bytes", x.count(6), 0);
    Say.heaps(x, 1);
    Say.due("nothing is left", x.barn(1), -3);
    Say.feed(x, "barn season 5,heap 2;heap 2;heap 2;heap 2;");
    Say.due("with a FAULT", x.barn(15), -31);
    Say.due("bytes", x.count(6), 0);
    Say.due("nothing is left", x.barn(1), -3);
    Say.feed(x, "barn season 6;");
    Say.due("barn(0)", x.barn(0), -32);
    Say.due("its place", x.fault(1), 0);
    Say.due("bytes", x.count(6), 0);
    Say.due("barn(0) of nothing", x.barn(0), -32);
    Say.due("what comes then is the first", Say.tell(x, "barn season 7;"), 1);
    Say.feed(x, "barn season 19;heap 12;");
    Say.due("a number is cut", x.barn(13), -32);
    Say.due("at the end", x.fault(1), 13);
    Say.feed(x, "barn season 1;heap 12;");
    Say.due("a number is cut", x.barn(20), -32);
    Say.due("at the end", x.fault(1), 20);
    Say.feed(x, "barn season 1;heap 1;");
    Say.due("a word is cut", x.barn(17), -32);
    Say.due("at its first", x.fault(1), 14);
    Say.feed(x, "barn season 0001;");
    Say.due("three digits of four", x.barn(15), -32);
    Say.due("at the end", x.fault(1), 15);
    Say.says(3, "-30 less the FAULT");
    String[] faults = {"", "barn season 1,", "barn season;", "barn season 10;",
        "barn season 1;may:not not not not not not not 1=1;"};
    for (int kind = 1; kind <= 4; kind++) {
      Say.due("kind " + kind, Say.tell(x, faults[kind]), -30 - kind);
      Say.due("fault(0)", x.fault(0), kind);
    }
  }

  private static void barnState() {
    Say.says(3, "MOONS are 0, nothing can be UNDONE: how many LINES (barn, too; all stays with a FAULT)");
    TitheHeap x = Say.told("barn season 3;heap 4;heap 2;gives:2;");
    Say.fill(x, 0, 0, 3, 2, 1);
    x.moons(5);
    x.season(8);
    x.image(0);
    int[] before = new int[8];
    for (int what = 0; what < 8; what++) {
      before[what] = x.count(what);
    }
    Say.must(before[4] == 5 && before[5] == 2 && before[7] == 4, "MOONS, calls, LINES ahead of it");
    String[] faults = {"barn season 1;heap 3;heap 3;gives:1;may:1=2;,", "barn season 1;heap 3;gives:3;heap",
        "barn season 1;heap 9;heap 10;", "barn season 1;heap 5;may:[[[[[[[1=1;"};
    for (String text : faults) {
      Say.must(Say.tell(x, text) < -30, "no FAULT: " + text);
      counts(x, before);
      Say.due("the law gives", x.gives(0), 2);
    }
    Say.due("a text without a FAULT", Say.tell(x, "barn season 1;"), 1);
    counts(x, 1, 1, 0, 1, 0, 0, 0, 1);
    Say.due("undo(1)", x.undo(1), -3);
    Say.due("laws are gone", x.gives(0), 1);
    Say.due("an IMAGE stays", x.restore(0), 0);
    Say.due("a TRAY stays", x.number(0), 5);
    Say.due("without laws", Say.tell(x, "barn season 1;heap 9;"), 2);
    Say.due("no law gives of an earlier text", x.gives(0), 1);
    Say.tell(x, "barn season 1;heap 9;gives:4;may:1=2;");
    Say.due("its law may", x.gives(0), 0);
    Say.tell(x, "barn season 1;heap 9;gives:5;");
    Say.due("no law may of an earlier text", x.gives(0), 5);
    Say.tell(x, "barn season 1;heap 9;gives:6;may:1=2;heap");
    Say.tell(x, "barn season 1;heap 9;");
    Say.due("no laws of a text with a FAULT", x.gives(0), 1);
    Say.due("every LINE", Say.tell(x, "barn season 1;heap 1;gives:1;gives:2;may:1=1;may:1=2;"), 6);
    Say.due("count(7)", x.count(7), 6);
  }

  private static void fault() {
    Say.says(4, "NONE for others.");
    TitheHeap x = new TitheHeap();
    Say.tell(x, "barn season 1;heap 19;");
    int[] others = {-1, 2, Integer.MIN_VALUE, Integer.MAX_VALUE};
    for (int what : others) {
      Say.due("fault(" + what + ")", x.fault(what), -1);
    }
    Say.says(4, "what 0: its FAULT (0), 1: its place (NONE)");
    Say.due("fault(0)", x.fault(0), 3);
    Say.due("fault(1)", x.fault(1), 19);
    Say.tell(x, "barn season 1;heap 18;");
    Say.due("fault(0)", x.fault(0), 0);
    Say.due("fault(1)", x.fault(1), -1);
    Say.says(4, "Of the latest barn() that was read");
    TitheHeap y = new TitheHeap();
    Say.due("none was read", y.fault(0), 0);
    Say.due("none was read", y.fault(1), -1);
    y.barn(1);
    y.barn(-1);
    Say.due("none was read", y.fault(0), 0);
    y.barn(0);
    Say.due("nothing was read", y.fault(0), 2);
    y.barn(1);
    Say.due("it stays the latest", y.fault(0), 2);
    Say.due("it stays the latest", y.fault(1), 0);
  }

  private static void heap() {
    Say.says(5, "NONE: there is none; -3: below 0.");
    TitheHeap x = Say.told(Say.SIX);
    Say.due("heap(-1)", x.heap(-1), -3);
    Say.due("heap(0)", x.heap(0), 3);
    Say.due("heap(2)", x.heap(2), 1);
    Say.due("heap(3)", x.heap(3), -1);
    Say.due("heap(least)", x.heap(Integer.MIN_VALUE), -3);
    Say.due("heap(most)", x.heap(Integer.MAX_VALUE), -1);
    x = Say.toldHeaps("", Say.ones(18));
    Say.due("heap(17) of 18", x.heap(17), 1);
    Say.due("heap(18) of 18", x.heap(18), -1);
    Say.due("heap(1) of 1", new TitheHeap().heap(1), -1);
  }

  private static void gives() {
    Say.says(6, "How much the heap of a PLACE gives in a MOON now, none SPARED. -2.");
    TitheHeap x = Say.toldHeaps("gives:place+1;", 5, 3, 3);
    int[] bad = {-1, 3, 18, Integer.MIN_VALUE, Integer.MAX_VALUE};
    for (int place : bad) {
      Say.due("gives(" + place + ")", x.gives(place), -2);
    }
    Say.due("gives(0)", x.gives(0), 1);
    Say.due("gives(2)", x.gives(2), 3);
    x = Say.toldHeaps("gives:place-16;", Say.ones(18));
    Say.due("gives(16) of 18", x.gives(16), 0);
    Say.due("gives(17) of 18", x.gives(17), 1);
    Say.due("gives(18) of 18", x.gives(18), -2);
  }

  private static void by() {
    Say.says(7, "-2: what; -5: the MOON can't be.");
    TitheHeap x = Say.toldHeaps("", 5, 3);
    int[] bad = {-1, 3, Integer.MIN_VALUE, Integer.MAX_VALUE};
    for (int what : bad) {
      Say.due("by(0, " + what + ")", x.by(0, what), -2);
      Say.due("by(19, " + what + ")", x.by(19, what), -2);
    }
    int[] cannot = {-1, 1, 2, 4, 6, 18, 19, 20, Integer.MIN_VALUE, Integer.MAX_VALUE};
    for (int deed : cannot) {
      for (int what = 0; what < 3; what++) {
        Say.due("by(" + deed + ", " + what + ")", x.by(deed, what), -5);
      }
    }
    Say.says(7, "By a MOON now (0 to 18), what 0: the STAND's number, 1: how many heaps, 2: the greatest one then.");
    // (5,3): (4,2,2); 3 spared: (4,3,1); 5 spared: (5,2,1)
    Say.due("by(0, 1)", x.by(0, 1), 3);
    Say.due("by(0, 2)", x.by(0, 2), 4);
    Say.due("by(3, 1)", x.by(3, 1), 3);
    Say.due("by(5, 2)", x.by(5, 2), 5);
    Say.heaps(x, 5, 3);
    Say.due("MOONS", x.count(4), 0);
    x = Say.toldHeaps("", 18);
    Say.due("by(0, 0)", x.by(0, 0), 1);
    Say.due("by(18, 0)", x.by(18, 0), 0);
    Say.due("by(18, 1)", x.by(18, 1), 1);
    Say.due("by(18, 2)", x.by(18, 2), 18);
    Say.due("by(17, 2)", x.by(17, 2), -5);
    x = Say.toldHeaps("gives:0;", Say.ones(18));
    Say.due("by(1, 0)", x.by(1, 0), 384);
    Say.due("by(1, 1)", x.by(1, 1), 18);
    Say.due("by(1, 2)", x.by(1, 2), 1);
  }

  // ---- deeds

  private static void deeds() {
    moon();
    moons();
    split();
    join();
    season();
    undoBounds();
    undoForgets();
    judge();
    judgeAtTheEnds();
    perform();
    yearBounds();
    yearDraws();
  }

  private static void moon() {
    Say.says(8, "-11 (not 0 to 18), -12.");
    TitheHeap x = Say.toldHeaps("", 5, 3);
    int[] noNumber = {-1, 19, 20, Integer.MIN_VALUE, Integer.MAX_VALUE};
    for (int deed : noNumber) {
      Say.due("moon(" + deed + ")", x.moon(deed), -11);
    }
    int[] noHeap = {1, 2, 4, 6, 17, 18};
    for (int deed : noHeap) {
      Say.due("moon(" + deed + ")", x.moon(deed), -12);
    }
    counts(x, 8, 2, 4, 0, 0, 0);
    Say.due("moon(0)", x.moon(0), 3);
    Say.due("MOONS", x.count(4), 1);
    x = Say.toldHeaps("", 18);
    Say.due("moon(18)", x.moon(18), 1);
    Say.due("MOONS", x.count(4), 1);
    Say.due("moon(0)", x.moon(0), 2);
    Say.due("moon(18) once it is gone", x.moon(18), -12);
    Say.due("moon(17)", x.moon(17), 2);
    Say.heaps(x, 17, 1);
    Say.due("moon(1)", new TitheHeap().moon(1), 1);
  }

  private static void moons() {
    Say.says(9, "n MOONS (1 to 99) in which none is SPARED: how many heaps there are then. -3.");
    TitheHeap x = Say.toldHeaps("", 2);
    int[] bad = {-1, 0, 100, 101, Integer.MIN_VALUE, Integer.MAX_VALUE};
    for (int n : bad) {
      Say.due("moons(" + n + ")", x.moons(n), -3);
    }
    counts(x, 2, 1, 0, 0, 0, 0);
    // (2) and (1,1) by turns
    Say.due("moons(1)", x.moons(1), 2);
    Say.due("moons(98)", x.moons(98), 2);
    Say.due("moons(99)", x.moons(99), 1);
    Say.due("MOONS", x.count(4), 198);
    Say.due("each is one call", x.count(5), 3);
  }

  private static void split() {
    Say.says(10, "-11, -12.");
    TitheHeap x = Say.toldHeaps("", 18);
    int[][] noNumber = {{0, 0}, {0, -1}, {1, 0}, {1, 1}, {2, 2}, {2, 0}, {18, 18}, {18, 19}, {18, 0}, {18, -1},
        {19, 1}, {19, 18}, {20, 19}, {-1, -2}, {17, 17}, {Integer.MAX_VALUE, 1}, {18, Integer.MIN_VALUE},
        {18, Integer.MAX_VALUE}, {Integer.MIN_VALUE, Integer.MIN_VALUE}};
    for (int[] pair : noNumber) {
      Say.due("split(" + pair[0] + ", " + pair[1] + ")", x.split(pair[0], pair[1]), -11);
    }
    int[][] noHeap = {{17, 1}, {17, 16}, {2, 1}};
    for (int[] pair : noHeap) {
      Say.due("split(" + pair[0] + ", " + pair[1] + ")", x.split(pair[0], pair[1]), -12);
    }
    counts(x, 18, 1, 0, 0, 0, 0);
    Say.due("split(18, 17)", x.split(18, 17), 2);
    Say.heaps(x, 17, 1);
    x.undo(1);
    Say.due("split(18, 1)", x.split(18, 1), 2);
    Say.heaps(x, 17, 1);
    x.undo(1);
    Say.due("split(18, 9)", x.split(18, 9), 2);
    Say.heaps(x, 9, 9);
    x = Say.toldHeaps("", 2);
    Say.due("split(2, 1)", x.split(2, 1), 2);
    Say.heaps(x, 1, 1);
    Say.due("split(2, 1) once it is gone", x.split(2, 1), -12);
  }

  private static void join() {
    Say.says(11, "-11, -12.");
    TitheHeap x = Say.toldHeaps("", 9, 8, 1);
    int[][] noNumber = {{0, 1}, {1, 0}, {-1, 1}, {1, -1}, {19, 1}, {1, 19}, {0, 0}, {19, 19}, {9, 0}, {19, 9},
        {Integer.MIN_VALUE, 1}, {1, Integer.MIN_VALUE}, {Integer.MAX_VALUE, 1}, {1, Integer.MAX_VALUE}};
    for (int[] pair : noNumber) {
      Say.due("join(" + pair[0] + ", " + pair[1] + ")", x.join(pair[0], pair[1]), -11);
    }
    int[][] noHeap = {{9, 9}, {1, 1}, {8, 8}, {9, 7}, {7, 9}, {10, 1}, {1, 18}, {18, 1}, {18, 18}, {2, 2}};
    for (int[] pair : noHeap) {
      Say.due("join(" + pair[0] + ", " + pair[1] + ")", x.join(pair[0], pair[1]), -12);
    }
    counts(x, 18, 3, x.count(2), 0, 0, 0);
    Say.heaps(x, 9, 8, 1);
    Say.due("join(1, 8)", x.join(1, 8), 2);
    Say.due("two of one SIZE", x.join(9, 9), 1);
    Say.heaps(x, 18);
    x = Say.toldHeaps("", 17, 1);
    Say.due("join(17, 1)", x.join(17, 1), 1);
    x.undo(1);
    Say.due("join(1, 17)", x.join(1, 17), 1);
    Say.heaps(x, 18);
    x = Say.toldHeaps("", 1, 1);
    Say.due("join(1, 1)", x.join(1, 1), 1);
    Say.heaps(x, 2);
  }

  private static void season() {
    Say.says(12, "Another SEASON (0 to 9): what it was. -11.");
    TitheHeap x = Say.toldHeaps("gives:season;", 18);
    int[] bad = {-1, 10, 11, Integer.MIN_VALUE, Integer.MAX_VALUE};
    for (int n : bad) {
      Say.due("season(" + n + ")", x.season(n), -11);
    }
    counts(x, 18, 1, 0, 0, 0, 0);
    Say.due("season(9)", x.season(9), 0);
    Say.due("gives(0)", x.gives(0), 9);
    Say.due("season(0)", x.season(0), 9);
    Say.due("gives(0)", x.gives(0), 0);
    Say.due("calls", x.count(5), 2);
  }

  private static void undoBounds() {
    Say.says(13, "n calls (1 to 10) are UNDONE: how many still can be. -3: n, more than can be.");
    TitheHeap x = Say.told(Say.SIX);
    int[] bad = {-1, 0, 1, 10, 11, Integer.MIN_VALUE, Integer.MAX_VALUE};
    for (int n : bad) {
      Say.due("undo(" + n + ") of none", x.undo(n), -3);
    }
    x.season(3);
    x.moon(0);
    x.moon(2);
    Say.due("undo(4) of 3", x.undo(4), -3);
    Say.due("undo(0) of 3", x.undo(0), -3);
    Say.due("undo(-1) of 3", x.undo(-1), -3);
    counts(x, 6, 3, 7, 3, 2, 3);
    Say.due("undo(1) of 3", x.undo(1), 2);
    counts(x, 6, 3, 5, 3, 1, 2);
    Say.due("undo(3) of 2", x.undo(3), -3);
    Say.due("undo(2) of 2", x.undo(2), 0);
    counts(x, 6, 3, 5, 2, 0, 0);
    Say.due("undo(1) of none", x.undo(1), -3);
    x = Say.toldHeaps("gives:season;", 18);
    x.season(4);
    x.season(7);
    x.undo(1);
    Say.due("gives(0) by the SEASON that came back", x.gives(0), 4);
    x.undo(1);
    Say.due("gives(0) by the SEASON that came back", x.gives(0), 0);
  }

  private static void undoForgets() {
    Say.says(Say.TERMS, "the latest first, 10 at most (eldest are forgotten)");
    TitheHeap x = new TitheHeap();
    for (int i = 1; i <= 25; i++) {
      x.moon(0);
      Say.due("calls", x.count(5), Math.min(i, 10));
    }
    Say.due("undo(11)", x.undo(11), -3);
    Say.due("undo(10)", x.undo(10), 0);
    Say.due("MOONS", x.count(4), 15);
    Say.due("undo(1)", x.undo(1), -3);
    for (int i = 0; i < 9; i++) {
      x.season(i + 1);
    }
    Say.due("undo(10) of 9", x.undo(10), -3);
    Say.due("undo(9) of 9", x.undo(9), 0);
    Say.due("SEASON", x.count(3), 0);
    Say.says(Say.TERMS, "Calls that did some can be UNDONE each as a whole");
    x = Say.toldHeaps("", 9, 9);
    x.moon(9);
    x.moons(99);
    x.season(1);
    Say.fill(x, 0, 0, 0, 0, 25, 19, 0);
    x.perform(0);
    x.year(1, 40);
    Say.due("five calls", x.count(5), 5);
    x.undo(5);
    Say.heaps(x, 9, 9);
    counts(x, 18, 2, x.count(2), 0, 0, 0);
    x.split(9, 4);
    x.join(9, 4);
    Say.due("undo(2)", x.undo(2), 0);
    Say.heaps(x, 9, 9);
  }

  private static void judge() {
    Say.says(14, "-2: the TRAY, what; -6.");
    TitheHeap x = Say.toldHeaps("", 2);
    int[] noTray = {-1, 4, Integer.MIN_VALUE, Integer.MAX_VALUE};
    for (int tray : noTray) {
      Say.due("judge(" + tray + ", 0)", x.judge(tray, 0), -2);
    }
    x.numbers(0, 0, 1);
    int[] noWhat = {-1, 4, Integer.MIN_VALUE, Integer.MAX_VALUE};
    for (int what : noWhat) {
      Say.due("judge(0, " + what + ")", x.judge(0, what), -2);
      Say.due("judge(1, " + what + ")", x.judge(1, what), -2);
    }
    for (int tray = 1; tray < 4; tray++) {
      Say.due("judge(" + tray + ", 0)", x.judge(tray, 0), -6);
      x.numbers(tray, 0, 0);
      Say.due("judge(" + tray + ", 0)", x.judge(tray, 0), -1);
    }
  }

  /** The four answers of a tray's judgement. */
  private static void judged(TitheHeap x, int place, int why, int heaps, int stand) {
    int[] want = {place, why, heaps, stand};
    for (int what = 0; what < 4; what++) {
      Say.due("judge(0, " + what + ")", x.judge(0, what), want[what]);
    }
  }

  private static void judgeAtTheEnds() {
    Say.says(14, "what 0: the first place that can't be (NONE), 1: why (0)");
    TitheHeap x = Say.toldHeaps("", 2);
    x.numbers(0, 0, 0);
    judged(x, -1, 0, 1, 0);
    x.numbers(0, 0, 40);
    judged(x, -1, 0, 1, 0);
    x.write(0, 39, 19);
    judged(x, 39, 1, 2, 1);
    x.write(0, 39, 2);
    judged(x, 39, 2, 2, 1);
    x.write(0, 39, 1);
    judged(x, -1, 0, 2, 1);
    x.write(0, 0, 1);
    judged(x, 0, 2, 1, 0);
    x.write(0, 0, -1);
    judged(x, 0, 1, 1, 0);
    Say.heaps(x, 2);
    counts(x, 2, 1, 0, 0, 0, 0);
  }

  private static void perform() {
    Say.says(15, "They are done, till one can't be: how many. -2; -6.");
    TitheHeap x = Say.toldHeaps("", 2);
    int[] noTray = {-1, 4, Integer.MIN_VALUE, Integer.MAX_VALUE};
    for (int tray : noTray) {
      Say.due("perform(" + tray + ")", x.perform(tray), -2);
    }
    for (int tray = 0; tray < 4; tray++) {
      Say.due("perform(" + tray + ")", x.perform(tray), -6);
      x.numbers(tray, tray, 0);
      Say.due("an empty TRAY", x.perform(tray), 0);
    }
    Say.due("nothing was done", x.count(5), 0);
    x.numbers(3, 0, 40);
    Say.due("40 deeds", x.perform(3), 40);
    counts(x, 2, 1, 0, 0, 40, 1);
    x.write(3, 39, 19);
    Say.due("39 deeds", x.perform(3), 39);
    counts(x, 2, 2, 1, 0, 79, 2);
    x.write(3, 0, 2);
    Say.due("none", x.perform(3), 0);
    counts(x, 2, 2, 1, 0, 79, 2);
    x.numbers(3, 0, 1);
    Say.due("one", x.perform(3), 1);
    counts(x, 2, 1, 0, 0, 80, 3);
  }

  private static void yearBounds() {
    Say.says(16, "A YEAR: how many could be. -3: how many times.");
    TitheHeap x = Say.told(Say.SIX);
    int[] bad = {-1, 0, 41, 42, Integer.MIN_VALUE, Integer.MAX_VALUE};
    for (int times : bad) {
      Say.due("year(5, " + times + ")", x.year(5, times), -3);
    }
    counts(x, 6, 3, 5, 2, 0, 0);
    int[] good = {1, 2, 39, 40};
    for (int times : good) {
      int could = x.year(5, times);
      Say.must(could >= 0 && could <= times, "year(5, " + times + ") answered " + could);
    }
  }

  /** A year by the document's words, its draws by long numbers below 2 to the 32. */
  private static void yearDraws() {
    Say.says(Say.TERMS, "x, an int; a DRAW: x becomes 1103515245 x + 12345, it is x >>> 16");
    int[] seeds = {0, 1, -1, 5, Integer.MAX_VALUE, Integer.MIN_VALUE, 0x7fff0000, 0x80010000, 1234567890};
    for (int seed : seeds) {
      for (int times = 1; times <= 40; times += 13) {
        TitheHeap x = Say.told(Say.SIX);
        TitheHeap y = Say.told(Say.SIX);
        long[] draws = draws(seed, 3 * times);
        int d = 0;
        int could = 0;
        for (int i = 0; i < times; i++) {
          int kind = (int) (draws[d++] % 6);
          int answer;
          if (kind < 3) {
            answer = y.moon(0);
          } else if (kind == 3) {
            answer = y.moon((int) (draws[d++] % 8));
          } else if (kind == 4) {
            answer = y.season((int) (draws[d++] % 10));
          } else {
            int size = (int) (draws[d++] % 6);
            answer = y.join(size, (int) (draws[d++] % 6));
          }
          could += answer >= 0 ? 1 : 0;
        }
        Say.due("year(" + seed + ", " + times + ")", x.year(seed, times), could);
        for (int what = 0; what < 5; what++) {
          Say.due("count(" + what + ") behind it", x.count(what), y.count(what));
        }
        Say.due("it is one call, if it did some", x.count(5), could > 0 ? 1 : 0);
      }
    }
  }

  private static long[] draws(int seed, int n) {
    long[] draws = new long[n];
    long x = seed & 0xffffffffL;
    for (int i = 0; i < n; i++) {
      x = 1103515245L * x + 12345 & 0xffffffffL;
      draws[i] = x >> 16;
    }
    return draws;
  }

  // ---- going

  private static void going() {
    Say.says(17, "n MOONS GOING (0 to 1,000,000,000,000,000). -3.");
    // (1,1,1,1), (4), then (3,1), (2,2), (2,1,1) for ever
    TitheHeap x = Say.toldHeaps("", 1, 1, 1, 1);
    long[] bad = {-1, FAR + 1, Long.MIN_VALUE, Long.MAX_VALUE, -FAR};
    for (long n : bad) {
      Say.due("at(" + n + ")", x.at(n), -3);
    }
    int[] stands = {4, 0, 1, 2, 3, 1, 2, 3};
    for (int n = 0; n < stands.length; n++) {
      Say.due("at(" + n + ")", x.at(n), stands[n]);
    }
    // 10 to the 15 is one more than what 3 divides, and the first round begins behind 2
    Say.due("at(10^15)", x.at(FAR), 3);
    Say.due("at(10^15 - 1)", x.at(FAR - 1), 2);
    Say.due("at(10^15 - 2)", x.at(FAR - 2), 1);
    Say.due("MOONS", x.count(4), 0);
    Say.says(18, "-2: what.");
    int[] noWhat = {-1, 2, Integer.MIN_VALUE, Integer.MAX_VALUE};
    for (int what : noWhat) {
      Say.due("round(" + what + ")", x.round(what), -2);
    }
    Say.due("round(0)", x.round(0), 2);
    Say.due("round(1)", x.round(1), 3);
    x = Say.toldHeaps("gives:0;", 5);
    Say.due("it is round at once", x.round(0), 0);
    Say.due("it is round at once", x.round(1), 1);
    all();
    ahead();
  }

  private static void all() {
    Say.says(19, "GOING comes to the round to which it comes from here (5). -2.");
    TitheHeap x = Say.toldHeaps("", 4);
    int[] noWhat = {-1, 6, Integer.MIN_VALUE, Integer.MAX_VALUE};
    for (int what : noWhat) {
      Say.due("all(" + what + ")", x.all(what), -2);
    }
    int[] four = {5, 1, 3, 1, 2, 5};
    TitheHeap still = Say.toldHeaps("gives:0;", 18);
    int[] stays = {385, 0, 385, 385, 0, 1};
    TitheHeap together = Say.toldHeaps("gives:size;", 18);
    int[] ends = {385, 384, 1, 1, 1, 385};
    for (int what = 0; what < 6; what++) {
      Say.due("all(" + what + ") of 4", x.all(what), four[what]);
      Say.due("all(" + what + ") of 18, nothing given", still.all(what), stays[what]);
      Say.due("all(" + what + ") of 18, all given", together.all(what), ends[what]);
    }
    // no heap of 1 gives: (4), (3,1), (2,1,1), (1,1,1,1); to (4) and (2,2) none leads
    TitheHeap growing = Say.toldHeaps("may:size>1;", 3, 1);
    int[] grows = {5, 2, 1, 1, 3, 5};
    for (int what = 0; what < 6; what++) {
      Say.due("all(" + what + ") of 4, no 1 gives", growing.all(what), grows[what]);
    }
    Say.says(Say.TERMS, "AGAIN: a STAND to which GOING comes back from it, one MOON at least.");
    Say.due("(2) and (1,1) come AGAIN by two", Say.toldHeaps("", 2).all(2), 2);
    Say.due("(1) comes AGAIN by one", new TitheHeap().all(2), 1);
  }

  /** All stands of a sum, each with no heap above a bound. */
  private static void stands(int sum, int most, List<Integer> begun, List<int[]> found) {
    if (sum == 0) {
      int[] sizes = new int[begun.size()];
      for (int i = 0; i < sizes.length; i++) {
        sizes[i] = begun.get(i);
      }
      found.add(sizes);
    }
    for (int size = Math.min(sum, most); size > 0; size--) {
      begun.add(size);
      stands(sum - size, size, begun, found);
      begun.remove(begun.size() - 1);
    }
  }

  private static void ahead() {
    Say.says(20, "by just n MOONS with none SPARED (0 to 9) to this one. -3.");
    TitheHeap x = Say.toldHeaps("", 4, 3, 2, 1);
    int[] bad = {-1, 10, 11, Integer.MIN_VALUE, Integer.MAX_VALUE};
    for (int n : bad) {
      Say.due("ahead(" + n + ")", x.ahead(n), -3);
    }
    List<int[]> all = new ArrayList<>();
    stands(10, 10, new ArrayList<>(), all);
    Say.due("stands of 10", all.size(), 42);
    int[] lead = new int[10];
    for (int[] sizes : all) {
      TitheHeap y = Say.toldHeaps("", sizes);
      for (int n = 0; n < 10; n++) {
        lead[n] += y.at(n) == x.count(2) ? 1 : 0;
      }
    }
    for (int n = 0; n < 10; n++) {
      Say.due("ahead(" + n + ")", x.ahead(n), lead[n]);
    }
    Say.must(lead[0] == 1 && lead[8] < lead[9] && lead[9] < 42, "8, 9 and for ever are not the same");
  }

  // ---- with some spared

  private interface OfTray {
    long ask(TitheHeap x, int tray);
  }

  /** Refusals of a call that is told a STAND, on either side of each bound. */
  private static void toldRefusals(OfTray call) {
    TitheHeap x = Say.toldHeaps("gives:0;", 18);
    int[] noTray = {-1, 4, Integer.MIN_VALUE, Integer.MAX_VALUE};
    for (int tray : noTray) {
      Say.due("TRAY " + tray, call.ask(x, tray), -2);
    }
    for (int tray = 0; tray < 4; tray++) {
      Say.due("TRAY " + tray + " is MISSING", call.ask(x, tray), -6);
      x.numbers(tray, 0, 0);
      Say.due("TRAY " + tray + " has no numbers", call.ask(x, tray), -4);
    }
    long[] many = new long[19];
    Arrays.fill(many, 1);
    Say.fill(x, 0, 0, many);
    Say.due("19 numbers", call.ask(x, 0), -4);
    x.numbers(0, 0, 40);
    Say.due("40 numbers", call.ask(x, 0), -4);
    long[][] noSize = {{0}, {19}, {-1}, {18, 0}, {0, 18}, {17, 1, 0}, {19, -1}, {18 + (1L << 32)},
        {18 + (1L << 8)}, {Long.MIN_VALUE}, {Long.MAX_VALUE}};
    for (long[] v : noSize) {
      Say.fill(x, 0, 3, v);
      Say.due("no SIZE: " + v[0], call.ask(x, 0), -3);
    }
    long[][] notAsMuch = {{17}, {18, 1}, {1}, {17, 2}, {9, 8}, {9, 10}, {18, 18}};
    for (long[] v : notAsMuch) {
      Say.fill(x, 0, 3, v);
      Say.due("not as much: " + v[0], call.ask(x, 0), -5);
    }
    long[] all = new long[18];
    Arrays.fill(all, 18);
    Say.fill(x, 0, 3, all);
    Say.due("18 of 18", call.ask(x, 0), -5);
    Say.fill(x, 0, 3, 18);
    Say.must(call.ask(x, 0) >= -1, "one number");
    Arrays.fill(all, 1);
    Say.fill(x, 0, 3, all);
    Say.must(call.ask(x, 0) >= -1, "18 numbers");
    Say.fill(x, 0, 3, 1, 17);
    Say.must(call.ask(x, 0) >= -1, "in any order");
  }

  private static void withSomeSpared() {
    Say.says(21, "NONE: it can't be; -2: the TRAY; -6; -4: not 1 to 18 numbers; -3: one is no SIZE; "
        + "-5: they are not as much together.");
    toldRefusals((x, tray) -> x.soonest(tray));
    TitheHeap x = Say.toldHeaps("", 18);
    Say.fill(x, 0, 0, 18);
    Say.due("as it is", x.soonest(0), 0);
    Say.fill(x, 0, 0, 1, 17);
    Say.due("one MOON", x.soonest(0), 1);
    x.moon(0);
    Say.fill(x, 0, 0, 18);
    Say.due("it can't be", x.soonest(0), -1);
    x = Say.toldHeaps("", Say.ones(18));
    Say.fill(x, 0, 0, 18);
    Say.due("all to one heap", x.soonest(0), 1);
    x = Say.toldHeaps("gives:size;", 1, 1, 1);
    Say.fill(x, 0, 0, 2, 1);
    Say.due("(2,1) by 1 spared", x.soonest(0), 1);
    way();
    rows();
    keeps();
    Say.says(25, "In how many ways heaps can be by some ROW (as they are, too).");
    Say.due("as they are alone", Say.toldHeaps("gives:0;", 18).stands(), 1);
    Say.due("(1)", new TitheHeap().stands(), 1);
    Say.due("(2), (1,1)", Say.toldHeaps("", 2).stands(), 2);
    // (3), (2,1), and by 1 spared (1,1,1)
    Say.due("all of 3", Say.toldHeaps("", 3).stands(), 3);
    Say.due("all given", Say.toldHeaps("gives:size;", 18).stands(), 1);
    // (1,1), none spared (2)
    Say.due("all given", Say.toldHeaps("gives:size;", 1, 1).stands(), 2);
  }

  private static void way() {
    Say.says(22, "NONE: not so many, it can't be; as soonest(); -3: also i is below 0.");
    toldRefusals((x, tray) -> x.way(tray, 0));
    toldRefusals((x, tray) -> x.way(tray, 1));
    TitheHeap x = Say.told(Say.SIX);
    // 1 spared (2,2,1,1), none (4,1,1), 4 spared (4,2)
    Say.fill(x, 0, 0, 2, 4);
    int[] row = {1, 0, 4, -1, -1};
    for (int i = 0; i < row.length; i++) {
      Say.due("way(0, " + i + ")", x.way(0, i), row[i]);
    }
    Say.due("way(0, most)", x.way(0, Integer.MAX_VALUE), -1);
    Say.due("way(0, -1)", x.way(0, -1), -3);
    Say.due("way(0, least)", x.way(0, Integer.MIN_VALUE), -3);
    Say.fill(x, 0, 0, 3, 2, 1);
    Say.due("as it is", x.way(0, 0), -1);
    Say.due("as it is", x.way(0, -1), -3);
    Say.fill(x, 0, 0, 6);
    Say.due("it can't be", x.way(0, 0), -1);
    Say.due("it can't be", x.way(0, -1), -3);
    Say.fill(x, 0, 0, 5);
    Say.due("not as much, and i below 0", x.way(0, -1), -5);
    x.numbers(0, 0, 19);
    Say.due("19 numbers, and i below 0", x.way(0, -1), -4);
  }

  private static void rows() {
    Say.says(23, "ROWS of just n MOONS (0 to 9) there are behind which there are k heaps (1 to 18). -3.");
    // nothing is given: in each MOON none is spared, or the one SIZE
    TitheHeap x = Say.toldHeaps("gives:0;", Say.ones(18));
    int[][] bad = {{0, 0}, {19, 0}, {-1, 5}, {1, -1}, {1, 10}, {18, 10}, {18, -1}, {0, 10},
        {Integer.MIN_VALUE, 0}, {Integer.MAX_VALUE, 0}, {1, Integer.MIN_VALUE}, {1, Integer.MAX_VALUE}};
    for (int[] v : bad) {
      Say.due("rows(" + v[0] + ", " + v[1] + ")", x.rows(v[0], v[1]), -3);
    }
    TitheHeap y = Say.toldHeaps("gives:0;", 18);
    for (int n = 0; n < 10; n++) {
      Say.due("rows(18, " + n + ")", x.rows(18, n), 1L << n);
      Say.due("rows(17, " + n + ")", x.rows(17, n), 0);
      Say.due("rows(1, " + n + ")", y.rows(1, n), 1L << n);
      Say.due("rows(2, " + n + ")", y.rows(2, n), 0);
    }
    x = Say.toldHeaps("gives:0;", 5, 4, 3, 3, 2, 1);
    Say.due("rows(6, 9)", x.rows(6, 9), 10077696L);
  }

  private static void keeps() {
    Say.says(24, "behind each of its MOONS no heap is above k (1 to 18). NONE: for ever; -3.");
    TitheHeap x = Say.toldHeaps("gives:0;", 5, 4);
    int[] bad = {-1, 0, 19, Integer.MIN_VALUE, Integer.MAX_VALUE};
    for (int k : bad) {
      Say.due("keeps(" + k + ")", x.keeps(k), -3);
    }
    Say.due("keeps(4)", x.keeps(4), 0);
    Say.due("keeps(5)", x.keeps(5), -1);
    Say.due("keeps(18)", Say.toldHeaps("", 18).keeps(18), -1);
    Say.due("keeps(5) of (5)", Say.toldHeaps("gives:0;", 5).keeps(5), -1);
    Say.due("keeps(4) of (5)", Say.toldHeaps("gives:0;", 5).keeps(4), 0);
    // all is given: only by 3 spared it is (3,3), and stays so
    Say.due("keeps(3) of (3,2,1)", Say.toldHeaps("gives:size;", 3, 2, 1).keeps(3), -1);
    Say.due("keeps(2) of (3,2,1)", Say.toldHeaps("gives:size;", 3, 2, 1).keeps(2), 0);
    Say.due("keeps(1)", Say.toldHeaps("gives:0;", Say.ones(18)).keeps(1), -1);
    Say.due("keeps(1)", Say.toldHeaps("", 1, 1).keeps(1), -1);
    // (1,1,1): none spared (3), 1 spared (2,1)
    Say.due("keeps(1)", Say.toldHeaps("", 1, 1, 1).keeps(1), 0);
    // now above k, but not behind a MOON: (2), (1,1), 1 spared (1,1), for ever
    Say.due("keeps(1)", Say.toldHeaps("", 2).keeps(1), -1);
    // (3,2,1): 2 spared (2,2,2), 2 spared (2,2,1,1), which always makes a 3 or a 4
    Say.due("keeps(2)", Say.told(Say.SIX).keeps(2), 2);
  }

  // ---- among all

  private static void amongAll() {
    Say.says(26, "The number of a STAND that is TOLD. As soonest().");
    toldRefusals((x, tray) -> x.number(tray));
    TitheHeap x = Say.toldHeaps("", 18);
    Say.fill(x, 0, 0, 18);
    Say.due("the first", x.number(0), 0);
    Say.fill(x, 0, 0, 1, 17);
    Say.due("the second", x.number(0), 1);
    long[] ones = new long[18];
    Arrays.fill(ones, 1);
    Say.fill(x, 0, 0, ones);
    Say.due("the last", x.number(0), 384);
    long[] twoAndOnes = new long[17];
    Arrays.fill(twoAndOnes, 1);
    twoAndOnes[16] = 2;
    Say.fill(x, 0, 0, twoAndOnes);
    Say.due("the last but one", x.number(0), 383);
    bounded();
    Say.says(28, "The number of the STAND these heaps are ON ITS SIDE.");
    Say.due("(1)", new TitheHeap().side(), 0);
    Say.due("(18)", Say.toldHeaps("", 18).side(), 384);
    Say.due("(17,1)", Say.toldHeaps("", 17, 1).side(), 383);
    Say.due("(1, ..)", Say.toldHeaps("", Say.ones(18)).side(), 0);
    under();
    Say.says(30, "How many STANDS lie UNDER these heaps (they too).");
    Say.due("(1)", new TitheHeap().below(), 1);
    Say.due("(18)", Say.toldHeaps("", 18).below(), 385);
    Say.due("(17,1)", Say.toldHeaps("", 17, 1).below(), 384);
    Say.due("(1, ..)", Say.toldHeaps("", Say.ones(18)).below(), 1);
    Say.due("(2,1)", Say.toldHeaps("", 2, 1).below(), 2);
  }

  private static void bounded() {
    Say.says(27, "How many STANDS have k heaps at most (1 to 18), none above m (1 to 18). -3.");
    TitheHeap x = Say.toldHeaps("", 18);
    int[] bad = {-1, 0, 19, Integer.MIN_VALUE, Integer.MAX_VALUE};
    for (int v : bad) {
      Say.due("bounded(" + v + ", 1)", x.bounded(v, 1), -3);
      Say.due("bounded(18, " + v + ")", x.bounded(18, v), -3);
    }
    int[][] want = {{1, 1, 0}, {1, 17, 0}, {1, 18, 1}, {2, 18, 10}, {17, 1, 0}, {18, 1, 1}, {17, 18, 384},
        {18, 17, 384}, {17, 17, 383}, {18, 18, 385}};
    for (int[] v : want) {
      Say.due("bounded(" + v[0] + ", " + v[1] + ")", x.bounded(v[0], v[1]), v[2]);
    }
    Say.due("bounded(1, 1) of 1", new TitheHeap().bounded(1, 1), 1);
  }

  private static void under() {
    Say.says(29, "Whether these heaps lie UNDER those TOLD: 1, else 0. As soonest().");
    toldRefusals((x, tray) -> x.under(tray));
    long[][] told = {{4, 2}, {3, 3}, {4, 1, 1}, {3, 2, 1}, {5, 1}, {2, 2, 2}, {3, 1, 1, 1}};
    // (3,3): 3, 6; (3,2,1): 3, 5, 6; (4,1,1): 4, 5, 6
    int[] three = {1, 1, 0, 0, 1, 0, 0};
    int[] steps = {1, 1, 1, 1, 1, 0, 0};
    int[] four = {1, 0, 1, 0, 1, 0, 0};
    for (int i = 0; i < told.length; i++) {
      TitheHeap[] x = {Say.toldHeaps("", 3, 3), Say.toldHeaps("", 3, 2, 1), Say.toldHeaps("", 4, 1, 1)};
      int[] want = {three[i], steps[i], four[i]};
      for (int j = 0; j < 3; j++) {
        Say.fill(x[j], 0, 0, told[i]);
        Say.due("under " + told[i][0] + ", " + told[i][1], x[j].under(0), want[j]);
      }
    }
  }

  // ---- counted

  /** Refusals of a call that is told counts, on either side of each bound. */
  private static void countRefusals(OfTray call, boolean calm) {
    TitheHeap x = Say.toldHeaps("gives:0;", Say.ones(18));
    int[] noTray = {-1, 4, Integer.MIN_VALUE, Integer.MAX_VALUE};
    for (int tray : noTray) {
      Say.due("TRAY " + tray, call.ask(x, tray), -2);
    }
    for (int tray = 0; tray < 4; tray++) {
      Say.due("TRAY " + tray + " is MISSING", call.ask(x, tray), -6);
      x.numbers(tray, 0, 0);
      Say.due("TRAY " + tray + " has no numbers", call.ask(x, tray), -4);
    }
    Say.fill(x, 0, 0, 1, 1, 1, 1, 1, 1, 1, 1, 1);
    Say.due("9 numbers", call.ask(x, 0), -4);
    x.numbers(0, 0, 40);
    Say.due("40 numbers", call.ask(x, 0), -4);
    long[][] bad = {{0}, {19}, {-2}, {18, 0}, {0, 18}, {18, 18, 18, 18, 18, 18, 18, 19}, {18 + (1L << 32)},
        {Long.MIN_VALUE}, {Long.MAX_VALUE}, {(1L << 32) - 1}};
    for (long[] v : bad) {
      Say.fill(x, 0, 3, v);
      Say.due("a number: " + v[v.length - 1], call.ask(x, 0), -3);
    }
    long[][] fine = {{1}, {18}, {1, 18}, {18, 18, 18, 18, 18, 18, 18, 18}};
    for (long[] v : fine) {
      Say.fill(x, 0, 3, v);
      Say.must(call.ask(x, 0) >= -1, "a number: " + v[0]);
    }
    Say.fill(x, 0, 0, 18, -1);
    if (calm) {
      Say.due("NONE", call.ask(x, 0), -3);
    } else {
      Say.must(call.ask(x, 0) >= -1, "NONE is refused");
    }
  }

  private static void counted() {
    Say.says(31, "COUNTED: how many ROWS. -2: the TRAY; -6; -4: not 1 to 8 numbers; "
        + "-3: one is not 1 to 18 nor NONE.");
    countRefusals((x, tray) -> x.counted(tray), false);
    TitheHeap x = Say.toldHeaps("gives:0;", Say.ones(18));
    TitheHeap y = Say.toldHeaps("gives:0;", 18);
    for (int n = 1; n <= 8; n++) {
      long[] v = new long[n];
      Arrays.fill(v, 18);
      Say.fill(x, 0, 0, v);
      Say.due(n + " times 18", x.counted(0), 1L << n);
      v[n - 1] = 17;
      Say.fill(x, 0, 0, v);
      Say.due("17 at the end of " + n, x.counted(0), 0);
      Arrays.fill(v, -1);
      Say.fill(x, 0, n % 4, v);
      Say.due(n + " times NONE", x.counted(0), 1L << n);
      Arrays.fill(v, 1);
      Say.fill(y, 0, 0, v);
      Say.due(n + " times 1", y.counted(0), 1L << n);
    }
    countedBy();
    spared();
    calm();
  }

  private static void countedBy() {
    Say.says(32, "NONE: not so many, there are none; as counted(); -3: also i is below 0.");
    countRefusals((x, tray) -> x.countedBy(tray, 0), false);
    countRefusals((x, tray) -> x.countedBy(tray, 8), false);
    countRefusals((x, tray) -> tray >= 0 && tray < 4 && isFine(x, tray) ? 0 : x.countedBy(tray, -1), false);
    TitheHeap x = Say.toldHeaps("gives:0;", 18);
    Say.fill(x, 0, 0, 1, 1, 1, 1, 1, 1, 1, 1);
    for (int i = 0; i < 8; i++) {
      Say.due("countedBy(0, " + i + ")", x.countedBy(0, i), 0);
    }
    Say.due("countedBy(0, 8)", x.countedBy(0, 8), -1);
    Say.due("countedBy(0, most)", x.countedBy(0, Integer.MAX_VALUE), -1);
    Say.due("countedBy(0, -1)", x.countedBy(0, -1), -3);
    Say.due("countedBy(0, least)", x.countedBy(0, Integer.MIN_VALUE), -3);
    Say.fill(x, 0, 0, 1, 2);
    Say.due("there are none", x.countedBy(0, 0), -1);
    Say.due("there are none", x.countedBy(0, 1), -1);
    Say.due("there are none", x.countedBy(0, 2), -1);
    Say.due("-3 is ahead of NONE", x.countedBy(0, -1), -3);
    // (18): 18 has to be spared once
    x = Say.toldHeaps("", 18);
    Say.fill(x, 0, 0, 1, 2);
    Say.due("countedBy(0, 0)", x.countedBy(0, 0), 18);
    Say.due("countedBy(0, 1)", x.countedBy(0, 1), 0);
    Say.due("countedBy(0, 2)", x.countedBy(0, 2), -1);
  }

  /** Whether a TRAY tells counts that are fine, as far as the tests above go. */
  private static boolean isFine(TitheHeap x, int tray) {
    return x.counted(tray) >= 0;
  }

  private static void spared() {
    Say.says(33, "as bits (0: there are none). As counted(); -3: also i is below 0; -7: there is no such MOON.");
    countRefusals((x, tray) -> x.spared(tray, 0), false);
    TitheHeap x = Say.toldHeaps("gives:0;", 18);
    Say.fill(x, 0, 0, 1, 1, 1, 1, 1, 1, 1, 1);
    for (int i = 0; i < 8; i++) {
      Say.due("spared(0, " + i + ")", x.spared(0, i), 1 | 1 << 18);
    }
    Say.due("spared(0, 8)", x.spared(0, 8), -7);
    Say.due("spared(0, most)", x.spared(0, Integer.MAX_VALUE), -7);
    Say.due("spared(0, -1)", x.spared(0, -1), -3);
    Say.due("spared(0, least)", x.spared(0, Integer.MIN_VALUE), -3);
    Say.fill(x, 0, 0, 1, 2);
    Say.due("there are none", x.spared(0, 0), 0);
    Say.due("there are none", x.spared(0, 1), 0);
    Say.due("there are none, nor such a MOON", x.spared(0, 2), -7);
    Say.fill(x, 0, 0, 19);
    Say.due("-3 is ahead of -7", x.spared(0, 1), -3);
    x = Say.toldHeaps("", 18);
    Say.fill(x, 0, 0, 1, 2);
    Say.due("18 alone", x.spared(0, 0), 1 << 18);
    Say.due("none alone", x.spared(0, 1), 1);
  }

  private static void calm() {
    Say.says(34, "CALM: SEASONS, as bits. -2: the TRAY; -6; -4: not 1 to 8 numbers; -3: one is not 1 to 18.");
    countRefusals((x, tray) -> x.seasons(tray), true);
    TitheHeap x = Say.toldHeaps("may:season=0;", Say.ones(18));
    Say.fill(x, 0, 0, 1);
    Say.due("SEASON 0 alone", x.seasons(0), 1);
    Say.fill(x, 0, 0, 18);
    Say.due("all but SEASON 0", x.seasons(0), 1022);
    x = Say.toldHeaps("may:season=9;", Say.ones(18));
    Say.fill(x, 0, 0, 1);
    Say.due("SEASON 9 alone", x.seasons(0), 512);
    Say.fill(x, 0, 0, 1, 2, 3, 3, 3, 3, 3, 3);
    Say.due("8 numbers", x.seasons(0) & ~512, 0);
    Say.fill(x, 0, 0, 18, 18, 18, 18, 18, 18, 18, 18);
    Say.due("8 numbers", x.seasons(0), 511);
    Say.fill(x, 0, 0, 17);
    Say.due("no SEASON", x.seasons(0), 0);
    Say.due("SEASON stays", x.count(3), 0);
    Say.says(35, "NONE: there are none; as seasons().");
    countRefusals((y, tray) -> y.attempt(tray), true);
    Say.due("there are none", x.attempt(0), -1);
    Say.fill(x, 0, 0, 18);
    Say.due("nothing tells them apart", x.attempt(0), 0);
    // one SEASON alone: the first MOON is as good as any
    Say.fill(x, 0, 0, 1);
    Say.due("SEASON 9 alone", x.attempt(0), 0);
    Say.says(35, "(none, if the MOON can't be), the first.");
    // (5,1) by SEASON 0, (4,2) by SEASON 9; none spared (4,2) by both, 1 can't be spared by SEASON 9
    x = Say.told("barn season 3;heap 6;gives:if season=0 then 1 else 2 end;may:season=0 or season=9;");
    Say.fill(x, 0, 0, 2);
    Say.due("SEASONS 0 and 9", x.seasons(0), 513);
    Say.due("attempt", x.attempt(0), 1);
  }

  // ---- by turns

  private static void byTurns() {
    Say.says(36, "FORCING k heaps at most (1 to 18): within how many MOONS, at fewest (0: it is so). "
        + "NONE: never; -3.");
    TitheHeap x = Say.toldHeaps("", Say.ones(18));
    TitheHeap still = Say.toldHeaps("gives:0;", Say.ones(18));
    int[] bad = {-1, 0, 19, Integer.MIN_VALUE, Integer.MAX_VALUE};
    for (int k : bad) {
      Say.due("forces(" + k + ")", x.forces(k), -3);
    }
    Say.due("forces(18)", x.forces(18), 0);
    Say.due("forces(17)", x.forces(17), 1);
    Say.due("forces(1)", x.forces(1), 1);
    Say.due("forces(18)", still.forces(18), 0);
    Say.due("forces(17)", still.forces(17), -1);
    Say.due("forces(1)", still.forces(1), -1);
    Say.due("forces(1)", Say.toldHeaps("", 18).forces(1), 0);
    Say.says(37, "The first DEED by which it does within as few. NONE: it doesn't, it is so; -3.");
    for (int k : bad) {
      Say.due("best(" + k + ")", x.best(k), -3);
    }
    Say.due("best(18)", x.best(18), -1);
    Say.due("best(17)", x.best(17), 0);
    Say.due("best(1)", x.best(1), 0);
    Say.due("best(18)", still.best(18), -1);
    Say.due("best(17)", still.best(17), -1);
    Say.due("best(1)", Say.toldHeaps("", 18).best(1), -1);
    // (2,2,1): none spared is no help, 1 spared is
    Say.due("best(2)", Say.toldHeaps("", 2, 2, 1).best(2), 1);
    Say.due("forces(2) within three", Say.toldHeaps("", 2, 2, 1).forces(2), 3);
    forcing();
    takes();
  }

  private static void forcing() {
    Say.says(Say.TERMS, "if it can do so that there are some time by then (behind a MOON, or now), "
        + "whatever the other one does.");
    String[] laws = {"", "gives:heaps-1;", "gives:heaps-place;may:heaps>2;",
        "gives:if place=0 then all-heaps else 2 end;"};
    List<int[]> all = new ArrayList<>();
    stands(10, 10, new ArrayList<>(), all);
    for (String law : laws) {
      TitheHeap[] x = new TitheHeap[all.size()];
      int[][] next = new int[x.length][19];
      for (int s = 0; s < x.length; s++) {
        x[s] = Say.toldHeaps(law, all.get(s));
        for (int deed = 0; deed < 19; deed++) {
          next[s][deed] = x[s].by(deed, 0);
        }
      }
      for (int k = 1; k <= 5; k++) {
        int[] within = within(x, next, k);
        for (int s = 0; s < x.length; s++) {
          Say.due("forces(" + k + ") from STAND " + s + " of 10 by " + law, x[s].forces(k), within[s]);
        }
      }
    }
  }

  /** Within how many moons each stand is forced, by the words: for n = 0, 1, .. who can, whatever the other does. */
  private static int[] within(TitheHeap[] x, int[][] next, int k) {
    int[] within = new int[x.length];
    boolean[] first = new boolean[x.length];
    boolean[] second = new boolean[x.length];
    for (int s = 0; s < x.length; s++) {
      first[s] = x[s].count(1) <= k;
      second[s] = first[s];
      within[s] = first[s] ? 0 : -1;
    }
    for (int n = 1; n <= 2 * x.length; n++) {
      boolean[] firstThen = first.clone();
      boolean[] secondThen = second.clone();
      for (int s = 0; s < x.length; s++) {
        boolean any = false;
        boolean every = true;
        for (int then : next[s]) {
          any |= then >= 0 && second[then];
          every &= then < 0 || first[then];
        }
        firstThen[s] |= any;
        secondThen[s] |= every;
        within[s] = within[s] < 0 && firstThen[s] ? n : within[s];
      }
      first = firstThen;
      second = secondThen;
    }
    return within;
  }

  private static void takes() {
    Say.says(38, "NONE: it loses; -2: what.");
    int[] bad = {-1, 2, Integer.MIN_VALUE, Integer.MAX_VALUE};
    TitheHeap x = Say.toldHeaps("", 9, 9);
    for (int what : bad) {
      Say.due("takes(" + what + ")", x.takes(what), -2);
    }
    Say.due("(9,9)", x.takes(0), -1);
    Say.due("(9,9)", x.takes(1), -1);
    Say.due("18 ones", Say.toldHeaps("", Say.ones(18)).takes(0), -1);
    Say.due("17 ones", Say.toldHeaps("", Say.ones(17)).takes(0), 0);
    Say.due("17 ones", Say.toldHeaps("", Say.ones(17)).takes(1), 1);
    Say.due("(18)", Say.toldHeaps("", 18).takes(0), 0);
    Say.due("(18)", Say.toldHeaps("", 18).takes(1), 18);
    Say.due("(1)", new TitheHeap().takes(1), 1);
    // (3,2,2): all of the first; (5,4): one of the 5
    Say.due("(3,2,2)", Say.toldHeaps("", 3, 2, 2).takes(1), 3);
    Say.due("(5,4)", Say.toldHeaps("", 5, 4).takes(0), 0);
    Say.due("(5,4)", Say.toldHeaps("", 5, 4).takes(1), 1);
    // 5 ^ 4 ^ 3 = 2, which the last alone can lose
    Say.due("(5,4,3)", Say.toldHeaps("", 5, 4, 3).takes(0), 2);
    Say.due("(5,4,3)", Say.toldHeaps("", 5, 4, 3).takes(1), 2);
  }

  // ---- chances

  private static void chances() {
    Say.says(39, "-2: what; -3: k, n.");
    TitheHeap x = Say.toldHeaps("", Say.ones(9));
    int[] noWhat = {-1, 2, Integer.MIN_VALUE, Integer.MAX_VALUE};
    for (int what : noWhat) {
      Say.due("chance(1, 1, " + what + ")", x.chance(1, 1, what), -2);
      Say.due("chance(0, 8, " + what + ")", x.chance(0, 8, what), -2);
    }
    for (int what = 0; what < 2; what++) {
      int[][] bad = {{0, 0}, {19, 0}, {-1, 7}, {1, -1}, {1, 8}, {18, 8}, {18, -1}, {0, 8}, {Integer.MIN_VALUE, 1},
          {Integer.MAX_VALUE, 1}, {1, Integer.MIN_VALUE}, {1, Integer.MAX_VALUE}};
      for (int[] v : bad) {
        Say.due("chance(" + v[0] + ", " + v[1] + ", " + what + ")", x.chance(v[0], v[1], what), -3);
      }
    }
    Say.says(39, "CHANCE that there are k heaps at most (1 to 18) behind n MOONS (0 to 7), "
        + "what 0: the number above, 1: below, in lowest terms.");
    TitheHeap still = Say.toldHeaps("gives:0;", Say.ones(18));
    for (int n = 0; n < 8; n++) {
      fraction("chance(18, " + n + ")", still.chance(18, n, 0), still.chance(18, n, 1), 1, 1);
      fraction("chance(17, " + n + ")", still.chance(17, n, 0), still.chance(17, n, 1), 0, 1);
      fraction("chance(1, " + n + ")", still.chance(1, n, 0), still.chance(1, n, 1), 0, 1);
    }
    fraction("chance(9, 0)", x.chance(9, 0, 0), x.chance(9, 0, 1), 1, 1);
    fraction("chance(8, 0)", x.chance(8, 0, 0), x.chance(8, 0, 1), 0, 1);
    // it stays (17,1) by lot 0 alone, else it is (16,1,1) for ever
    int power = 1;
    TitheHeap rare = Say.toldHeaps("may:heaps=2 and place=0;", 17, 1);
    for (int n = 0; n < 8; n++) {
      fraction("one of so many", rare.chance(2, n, 0), rare.chance(2, n, 1), 1, power);
      Say.due("the others", rare.chance(3, n, 0), 1);
      power *= 10;
    }
    lots();
    mean();
  }

  private static void fraction(String call, int above, int below, int wantAbove, int wantBelow) {
    Say.due(call + " above", above, wantAbove);
    Say.due(call + " below", below, wantBelow);
  }

  private static void lots() {
    Say.says(Say.TERMS, "by lot v the heap of PLACE v is SPARED (none, if there is no such)");
    // of so many ones all are one heap, if none is spared
    int[] none = {0, 9, 8, 7, 6, 5, 4, 3, 2, 1, 0, 0, 0};
    for (int heaps = 2; heaps <= 12; heaps++) {
      TitheHeap x = Say.toldHeaps("", Say.ones(heaps));
      int twos = none[heaps] % 2 == 0 ? 2 : 1;
      int fives = none[heaps] % 5 == 0 ? 5 : 1;
      int above = none[heaps] / twos / fives;
      fraction(heaps + " ones", x.chance(1, 1, 0), x.chance(1, 1, 1), above, none[heaps] == 0 ? 1 : 10 / twos / fives);
    }
    // of 11 ones those of PLACE 9 and 10 give: by lot 9 one of them alone, and no lot is 10
    TitheHeap x = Say.toldHeaps("may:place>8;", Say.ones(11));
    fraction("PLACE 10", x.chance(10, 1, 0), x.chance(10, 1, 1), 9, 10);
    x = Say.toldHeaps("may:place>7;", Say.ones(10));
    fraction("PLACES 8, 9", x.chance(9, 1, 0), x.chance(9, 1, 1), 4, 5);
  }

  private static void mean() {
    Say.says(40, "-2: what; -3: n.");
    TitheHeap x = Say.toldHeaps("may:heaps=2 and place=0;", 17, 1);
    int[] noWhat = {-1, 2, Integer.MIN_VALUE, Integer.MAX_VALUE};
    for (int what : noWhat) {
      Say.due("mean(1, " + what + ")", x.mean(1, what), -2);
      Say.due("mean(8, " + what + ")", x.mean(8, what), -2);
    }
    int[] bad = {-1, 8, Integer.MIN_VALUE, Integer.MAX_VALUE};
    for (int n : bad) {
      Say.due("mean(" + n + ", 0)", x.mean(n, 0), -3);
      Say.due("mean(" + n + ", 1)", x.mean(n, 1), -3);
    }
    Say.says(40, "on the mean behind n MOONS (0 to 7), what 0: above, 1: below, in lowest terms.");
    int power = 1;
    for (int n = 0; n < 8; n++) {
      fraction("mean(" + n + ")", x.mean(n, 0), x.mean(n, 1), 16 * power + 1, power);
      power *= 10;
    }
    x = Say.toldHeaps("gives:0;", 18);
    fraction("mean(7)", x.mean(7, 0), x.mean(7, 1), 18, 1);
    x = Say.toldHeaps("gives:0;", Say.ones(18));
    fraction("mean(7)", x.mean(7, 0), x.mean(7, 1), 1, 1);
  }

  // ---- trays, images

  private static void traysAndImages() {
    numbers();
    write();
    wraps();
    lists();
    images();
    Say.says(46, "NONE for others.");
    TitheHeap x = Say.told(Say.SIX);
    int[] others = {-1, 8, 9, Integer.MIN_VALUE, Integer.MAX_VALUE};
    for (int what : others) {
      Say.due("count(" + what + ")", x.count(what), -1);
    }
    counts(x, 6, 3, 5, 2, 0, 0, 0, 4);
    Say.says(46, "5 calls that can be UNDONE, 6 bytes on THE TAPE, 7 LINES.");
    for (int i = 1; i <= 12; i++) {
      x.season(0);
      feedFour(x, 0);
      Say.due("calls", x.count(5), Math.min(10, i));
      Say.due("bytes", x.count(6), 20 * i);
    }
  }

  private static void numbers() {
    Say.says(41, "-2: no such TRAY, sort; -3, and the TRAY stays: n is below 0 or above 40.");
    TitheHeap x = new TitheHeap();
    int[] no = {-1, 4, Integer.MIN_VALUE, Integer.MAX_VALUE};
    for (int v : no) {
      Say.due("TRAY " + v, x.numbers(v, 0, 1), -2);
      Say.due("sort " + v, x.numbers(0, v, 1), -2);
      Say.due("TRAY " + v + ", 41", x.numbers(v, 0, 41), -2);
      Say.due("sort " + v + ", -1", x.numbers(0, v, -1), -2);
    }
    int[] bad = {-1, 41, Integer.MIN_VALUE, Integer.MAX_VALUE};
    for (int n : bad) {
      Say.due(n + " numbers", x.numbers(0, 0, n), -3);
    }
    Say.due("it stays MISSING", x.judge(0, 0), -6);
    for (int tray = 0; tray < 4; tray++) {
      Say.due("40 numbers", x.numbers(tray, tray, 40), 0);
      Say.due("the last one", x.write(tray, 39, 7), 7);
    }
    for (int n : bad) {
      Say.due(n + " numbers", x.numbers(3, 0, n), -3);
    }
    Say.due("numbers, no such sort", x.numbers(3, 4, 1), -2);
    Say.due("it stays of 64 bits", x.write(3, 39, 1L << 62), 1L << 62);
    Say.due("it stays as it was: a DEED that can't be", x.judge(3, 0), 39);
    Say.says(41, "A TRAY has n numbers of a sort, all 0 (in place of another one): 0.");
    Say.due("40 numbers", x.numbers(3, 0, 40), 0);
    Say.due("all are 0", x.judge(3, 0), -1);
    Say.due("of 8 bits", x.write(3, 39, 256), 0);
    Say.due("none", x.numbers(3, 2, 0), 0);
    Say.due("none", x.write(3, 0, 1), -7);
    Say.due("one", x.numbers(3, 2, 1), 0);
    Say.due("one", x.write(3, 0, 1), 1);
    Say.due("one", x.judge(3, 0), -1);
  }

  private static void write() {
    Say.says(42, "-2: no such TRAY; -6; -7.");
    TitheHeap x = new TitheHeap();
    int[] no = {-1, 4, Integer.MIN_VALUE, Integer.MAX_VALUE};
    for (int tray : no) {
      Say.due("write(" + tray + ", 0, 1)", x.write(tray, 0, 1), -2);
    }
    for (int tray = 0; tray < 4; tray++) {
      Say.due("MISSING", x.write(tray, 0, 1), -6);
      Say.due("MISSING", x.write(tray, -1, 1), -6);
      x.numbers(tray, 0, 0);
      Say.due("no numbers", x.write(tray, 0, 1), -7);
    }
    x.numbers(0, 0, 3);
    int[] bad = {-1, 3, 39, 40, Integer.MIN_VALUE, Integer.MAX_VALUE};
    for (int i : bad) {
      Say.due("write(0, " + i + ", 1)", x.write(0, i, 1), -7);
    }
    Say.due("the first", x.write(0, 0, 5), 5);
    Say.due("the last", x.write(0, 2, 5), 5);
    x.numbers(0, 0, 40);
    Say.due("the last of 40", x.write(0, 39, 5), 5);
    Say.due("behind the last of 40", x.write(0, 40, 5), -7);
  }

  private static void wraps() {
    Say.says(42, "Number i of a TRAY is v, cut to its sort: as it is there.");
    TitheHeap x = new TitheHeap();
    int[] bits = {8, 16, 32};
    for (int sort = 0; sort < 3; sort++) {
      x.numbers(0, sort, 1);
      long half = 1L << bits[sort] - 1;
      long[][] cuts = {{half - 1, half - 1}, {half, -half}, {half + 1, 1 - half}, {2 * half - 1, -1}, {2 * half, 0},
          {2 * half + 1, 1}, {-half, -half}, {-half - 1, half - 1}, {-1, -1}, {-2 * half, 0}, {Long.MAX_VALUE, -1},
          {Long.MIN_VALUE, 0}, {0, 0}};
      for (long[] cut : cuts) {
        Say.due(cut[0] + " in " + bits[sort] + " bits", x.write(0, 0, cut[0]), cut[1]);
      }
    }
    x.numbers(0, 3, 1);
    long[] whole = {Long.MAX_VALUE, Long.MIN_VALUE, -1, 0, 1L << 32, -1L << 32};
    for (long v : whole) {
      Say.due(v + " in 64 bits", x.write(0, 0, v), v);
    }
    // what is cut is what is told: 257 is 1 in 8 bits, and no SIZE in 16
    x.numbers(0, 0, 1);
    x.write(0, 0, 257);
    Say.must(x.number(0) == 0, "257 in 8 bits is no SIZE of 1");
    x.numbers(0, 1, 1);
    x.write(0, 0, 257);
    Say.must(x.number(0) == -3, "257 in 16 bits is a SIZE");
  }

  private static void lists() {
    Say.says(43, "-2: the TRAY; -6; -3: the number.");
    TitheHeap x = Say.told(Say.SIX);
    int[] no = {-1, 4, Integer.MIN_VALUE, Integer.MAX_VALUE};
    for (int tray : no) {
      Say.due("lists(" + tray + ", 0)", x.lists(tray, 0), -2);
    }
    for (int tray = 0; tray < 4; tray++) {
      Say.due("MISSING", x.lists(tray, 0), -6);
      Say.due("MISSING", x.lists(tray, -1), -6);
    }
    x.numbers(0, 0, 6);
    int[] bad = {-1, 11, 12, Integer.MIN_VALUE, Integer.MAX_VALUE};
    for (int number : bad) {
      Say.due("lists(0, " + number + ")", x.lists(0, number), -3);
    }
    Say.due("the first", x.lists(0, 0), 1);
    Say.due("the last", x.lists(0, 10), 6);
    Say.due("the last", x.number(0), 10);
    Say.says(43, "the greatest first, as far as it has places: how many.");
    for (int places = 0; places <= 4; places++) {
      x.numbers(1, 3, places);
      Say.due("(3,2,1) on " + places + " places", x.lists(1, 5), Math.min(3, places));
    }
    // what is behind stays: 3, 2, 1 and a 0; then 6, 2, 1, 0
    Say.must(x.number(1) == -3, "the place behind is no 0");
    x.numbers(1, 0, 3);
    x.lists(1, 5);
    Say.due("all of it", x.number(1), 5);
    x.numbers(1, 0, 2);
    x.lists(1, 5);
    Say.must(x.number(1) == -5, "3, 2 are as much as all");
    x = Say.toldHeaps("", 18);
    x.numbers(0, 0, 40);
    Say.due("18 heaps", x.lists(0, 384), 18);
    Say.due("behind the last number", x.lists(0, 385), -3);
    x.numbers(0, 0, 17);
    Say.due("17 of 18 heaps", x.lists(0, 384), 17);
  }

  private static void images() {
    Say.says(44, "An IMAGE is made: 0. -2.");
    TitheHeap x = Say.told(Say.SIX);
    int[] no = {-1, 2, Integer.MIN_VALUE, Integer.MAX_VALUE};
    for (int i : no) {
      Say.due("image(" + i + ")", x.image(i), -2);
    }
    Say.due("image(1)", x.image(1), 0);
    x.moon(2);
    Say.due("image(0)", x.image(0), 0);
    Say.says(45, "All that is in an IMAGE is as it was: 0. -2; -5: none was made.");
    TitheHeap y = new TitheHeap();
    for (int i : no) {
      Say.due("restore(" + i + ")", x.restore(i), -2);
      Say.due("restore(" + i + ")", y.restore(i), -2);
    }
    Say.due("restore(0)", y.restore(0), -5);
    Say.due("restore(1)", y.restore(1), -5);
    y.image(1);
    Say.due("restore(0), the other was made", y.restore(0), -5);
    Say.due("restore(1)", y.restore(1), 0);
    Say.due("restore(1)", x.restore(1), 0);
    counts(x, 6, 3, 5, 2, 0, 0, 0, 4);
    Say.due("restore(0)", x.restore(0), 0);
    counts(x, 6, 3, 7, 2, 1, 0, 0, 4);
    Say.says(Say.TERMS, "IMAGES 0 to 1: THE BARN and what a call could bring back by UNDOING; "
        + "nothing can be UNDONE behind (none at first).");
    x.moon(0);
    Say.due("undo(1) ahead of it", x.undo(1), 0);
    x.moon(0);
    x.restore(1);
    Say.due("undo(1) behind it", x.undo(1), -3);
    Say.due("calls", x.count(5), 0);
  }

  // ---- terms that belong to several promises

  private static void terms() {
    deedNumbers();
    alike();
    trays();
    manyCalls();
  }

  private static void why(TitheHeap x, long deed, int want) {
    Say.fill(x, 3, 3, deed);
    Say.due("why not " + deed, x.judge(3, 1), want);
    Say.due("place of " + deed, x.judge(3, 0), want == 0 ? -1 : 0);
  }

  private static void deedNumbers() {
    Say.says(Say.TERMS, "DEEDS: 0: a MOON, none SPARED; 1 to 18: a MOON, one of SIZE v SPARED");
    TitheHeap x = Say.toldHeaps("", 18);
    why(x, -1, 1);
    why(x, 0, 0);
    why(x, 1, 2);
    why(x, 17, 2);
    why(x, 18, 0);
    why(x, 19, 1);
    Say.says(Say.TERMS, "20 to 29: SEASON v - 20");
    for (int v = 20; v <= 29; v++) {
      why(x, v, 0);
      TitheHeap y = Say.toldHeaps("", 18);
      Say.fill(y, 0, 0, v);
      y.perform(0);
      Say.due("SEASON by " + v, y.count(3), v - 20);
    }
    why(x, 30, 1);
    Say.says(Say.TERMS, "1000 to 2999: (v - 1000) by 100 is SPLIT, one of v modulo 100");
    long[] none = {31, 99, 100, 999, 1000, 1001, 1100, 1101, 1102, 1200, 1202, 2800, 2818, 2819, 2899, 2900, 2901,
        2918, 2999};
    for (long v : none) {
      why(x, v, 1);
    }
    why(x, 2801, 0);
    why(x, 2817, 0);
    why(x, 2716, 2);
    why(x, 1201, 2);
    Say.says(Say.TERMS, "3000 to 4999: heaps of (v - 3000) by 100 and v modulo 100 are JOINED; others: 1.");
    x = Say.toldHeaps("", 9, 8, 1);
    long[] others = {3000, 3001, 3009, 3100, 3119, 3199, 3900, 3919, 4899, 4900, 4901, 4909, 4999, 5000, 5001, 5101,
        6000, Integer.MAX_VALUE, Integer.MIN_VALUE, 1L << 32, (1L << 32) + 9, (1L << 32) + 3901, Long.MAX_VALUE,
        Long.MIN_VALUE};
    for (long v : others) {
      why(x, v, 1);
    }
    long[] noHeap = {3909, 3101, 3118, 4801, 4818, 3902};
    for (long v : noHeap) {
      why(x, v, 2);
    }
    long[] fine = {3901, 3109, 3908, 3809, 3108};
    for (long v : fine) {
      why(x, v, 0);
    }
  }

  private static void alike() {
    Say.says(Say.TERMS, "(of alike ones the first)");
    // of three alike ones the first alone gives: spared, nothing is given
    TitheHeap x = Say.toldHeaps("may:place=0;", 3, 3, 3);
    Say.due("moon(3)", x.moon(3), 3);
    Say.heaps(x, 3, 3, 3);
    Say.due("moon(0)", x.moon(0), 4);
    Say.heaps(x, 3, 3, 2, 1);
    x = Say.toldHeaps("may:place=2;", 3, 3, 3);
    Say.due("moon(3)", x.moon(3), 4);
    // behind a greater one the first of alike ones is that of PLACE 1
    x = Say.toldHeaps("may:place=1;", 4, 3, 3);
    Say.due("moon(3)", x.moon(3), 3);
    Say.due("moon(4)", x.moon(4), 4);
    Say.says(Say.TERMS, "2 there is no such heap (JOIN: two of one SIZE, if alike).");
    x = Say.toldHeaps("", 3, 3);
    Say.due("join(3, 3) of two", x.join(3, 3), 1);
    Say.must(Say.toldHeaps("", 3, 4).join(3, 3) == -12, "join(3, 3) of one");
  }

  private static void trays() {
    Say.says(Say.TERMS, "TRAYS 0 to 3 are MISSING at first, or have 0 to 40 numbers of 8 bits (sort 0), 16 (1), "
        + "32 (2), 64 (3).");
    TitheHeap x = new TitheHeap();
    for (int tray = 0; tray < 4; tray++) {
      Say.due("TRAY " + tray, x.judge(tray, 0), -6);
    }
    Say.due("TRAY 3", x.numbers(3, 0, 0), 0);
    Say.due("TRAY 3 has none", x.judge(3, 0), -1);
    Say.due("TRAY 2 still", x.judge(2, 0), -6);
    // NONE is told by any sort
    x = Say.toldHeaps("gives:0;", 5);
    for (int sort = 0; sort < 4; sort++) {
      Say.fill(x, 1, sort, -1);
      Say.due("NONE in sort " + sort, x.counted(1), 2);
    }
  }

  /** The dearest calls, 512 of them: numbers of moons and of calls stay right. */
  private static void manyCalls() {
    Say.says(Say.WHAT_IT_IS, "An object is used for at most 512 calls after it has been made");
    TitheHeap x = new TitheHeap();
    Say.tell(x, "barn season 1;heap 2;");
    for (int i = 0; i < 500; i++) {
      x.moons(99);
    }
    Say.due("MOONS", x.count(4), 49500);
    Say.due("calls", x.count(5), 10);
    Say.due("undo(10)", x.undo(10), 0);
    Say.due("MOONS", x.count(4), 48510);
    x = Say.told("barn season 1;heap 18;gives:season;");
    Say.fill(x, 0, 0, 20, 0, 29, 0, 20, 0, 29, 0, 20, 0, 29, 0, 20, 0, 29, 0, 20, 0, 29, 0, 20, 0, 29, 0, 20, 0, 29,
        0, 20, 0, 29, 0, 20, 0, 29, 0);
    for (int i = 0; i < 450; i++) {
      Say.must(x.judge(0, 0) == -1, "judge(0, 0)");
    }
    Say.due("gives(0) by the SEASON", x.gives(0), 1);
  }
}
