/**
 * Each promise of the document by answers that were worked out by hand: ordinary inputs, the edges
 * that the document names, and wrong inputs. Promise n is tested by the method pn.
 */
public final class PromiseTest {
  private static int wrong = 0;
  private static int promise = 0;
  private static int asked = 0;

  private static void due(String call, long got, long want) {
    asked++;
    if (got != want) {
      wrong++;
      System.out.println("promise " + promise + ": " + call + " answered " + got + ", due is " + want);
    }
  }

  /** Feeds a text, filled up with blanks, and reads it. */
  private static int tell(TitheHeap x, String text) {
    for (int i = 0; i < text.length(); i += 20) {
      int[] v = new int[5];
      for (int j = 0; j < 20; j++) {
        v[j / 4] = v[j / 4] << 8 | (i + j < text.length() ? text.charAt(i + j) & 255 : 32);
      }
      x.feed(v[0], v[1], v[2], v[3], v[4]);
    }
    return x.barn(text.length());
  }

  private static TitheHeap told(String text) {
    TitheHeap x = new TitheHeap();
    int lines = tell(x, text);
    if (lines < 1) {
      wrong++;
      System.out.println("promise " + promise + ": a text is refused by " + lines + ": " + text);
    }
    return x;
  }

  private static void fill(TitheHeap x, int tray, int sort, long... v) {
    due("numbers", x.numbers(tray, sort, v.length), 0);
    for (int i = 0; i < v.length; i++) {
      x.write(tray, i, v[i]);
    }
  }

  private static void heaps(TitheHeap x, int... sizes) {
    due("count(1)", x.count(1), sizes.length);
    for (int i = 0; i < sizes.length; i++) {
      due("heap(" + i + ")", x.heap(i), sizes[i]);
    }
    due("heap behind the last", x.heap(sizes.length), -1);
  }

  private static void fault(String text, int kind, int place) {
    TitheHeap x = told("barn season 7;heap 3;heap 1;");
    x.moon(0);
    due(text, tell(x, text), kind == 0 ? x.count(7) : -30 - kind);
    due("fault(0) of " + text, x.fault(0), kind);
    due("fault(1) of " + text, x.fault(1), place);
    if (kind != 0) {
      due("SEASON behind " + text, x.count(3), 7);
      due("MOONS behind " + text, x.count(4), 1);
      due("UNDO behind " + text, x.count(5), 1);
      due("LINES behind " + text, x.count(7), 3);
      due("all behind " + text, x.count(0), 4);
      due("bytes behind " + text, x.count(6), 0);
    }
  }

  public static void main(String[] args) {
    theBarn();
    deeds();
    going();
    withSomeSpared();
    amongAll();
    counted();
    byTurns();
    chances();
    traysAndImages();
    System.out.println(asked + " answers, " + wrong + " not as due");
    if (wrong != 0) {
      System.exit(1);
    }
  }

  private static final String SIX = "barn season 2;heap 2;heap 1;heap 3;";

  private static void theBarn() {
    p1();
    p2();
    p3();
    p3Faults();
    p3Laws();
    p4();
    p5();
    p6();
    p7();
  }

  private static void p1() {
    promise = 1;
    TitheHeap x = new TitheHeap();
    heaps(x, 1);
    int[] counts = {1, 1, 0, 0, 0, 0, 0, 0};
    for (int what = 0; what < 8; what++) {
      due("count(" + what + ")", x.count(what), counts[what]);
    }
    due("NONE", TitheHeap.NONE, -1);
  }

  private static void p2() {
    promise = 2;
    TitheHeap x = new TitheHeap();
    for (int i = 1; i <= 45; i++) {
      due("feed", x.feed(-1, 0, i, 7, 8), 20 * i);
    }
    due("feed above 900", x.feed(0, 0, 0, 0, 0), -5);
    due("bytes", x.count(6), 900);
    // the highest byte of an int comes first
    x = new TitheHeap();
    x.feed(0x6261726e, 0x20736561, 0x736f6e20, 0x343b2020, 0x20202020);
    due("barn", x.barn(14), 1);
    due("SEASON", x.count(3), 4);
  }

  private static void p3() {
    promise = 3;
    TitheHeap x = told("barn season 2;heap 3;");
    x.moon(0);
    x.feed(0x6261726e, 0x20736561, 0x736f6e20, 0x343b2020, 0x20202020);
    due("below 0", x.barn(-1), -3);
    due("above what there is", x.barn(21), -3);
    due("THE TAPE stays", x.count(6), 20);
    due("MOONS stay", x.count(4), 1);
    due("all of it", x.barn(20), 1);
    due("THE TAPE is empty", x.count(6), 0);
    due("MOONS", x.count(4), 0);
    due("UNDO", x.count(5), 0);
    due("SEASON", x.count(3), 4);
    heaps(x, 1);
    due("what is behind is gone", tell(x, SIX), 4);
    due("lines", x.count(7), 4);
    heaps(x, 3, 2, 1);
    due("struck lines are lines", tell(x, "barn season 0;gives:2;gives:1;may:1=1;may:1=2;"), 5);
    due("no blanks but where words meet", tell(x, "barn season9;heap18;"), 2);
    due("blanks everywhere", tell(x, "\n barn\nseason  3 ; heap 012 ;\n"), 2);
    heaps(x, 12);
  }

  private static void p3Faults() {
    promise = 3;
    fault("", 2, 0);
    fault("  ", 2, 2);
    fault("barn", 2, 4);
    fault("barn season", 2, 11);
    fault("barn season 1 ", 2, 14);
    fault("heap 1;barn season 1;", 2, 0);
    fault("barns season 1;", 2, 0);
    fault("Barn season 1;", 1, 0);
    fault("barn heap 1;", 2, 5);
    fault("barn season 9;", 0, -1);
    fault("barn season 10;", 3, 12);
    fault("barn season 010;", 3, 12);
    fault("barn season 0009;", 1, 12);
    fault("barn season 1;season 2;", 2, 14);
    fault("barn season 1;barn season 1;", 2, 14);
    fault("barn season 1;;", 2, 14);
    fault("barn season 1;5", 2, 14);
    fault("barn season 1;heap 1;5;", 2, 21);
    fault("barn season 1;heap 18;heap 0;", 3, 27);
    fault("barn season 1;heap 17;heap 2;", 3, 27);
    fault("barn season 1;heap 17;heap 1;", 0, -1);
    fault("barn season 1;heap 19,", 3, 19);
    fault("barn season 1;heap ,;", 1, 19);
    fault("barn season 1;heap -1;", 2, 19);
    fault("barn season 1;heap 1:", 2, 20);
    fault("barn season 1;heaps 1;", 2, 14);
    fault("barn season 1;gives:1 1;", 2, 22);
    fault("barn season 1;gives:1+;", 2, 22);
    fault("barn season 1;gives:+1;", 2, 20);
    fault("barn season 1;gives:999;", 0, -1);
    fault("barn season 1;gives:1000;", 1, 20);
    fault("barn season 1;gives:1=1;", 2, 21);
    fault("barn season 1;gives:[1];", 2, 20);
    fault("barn season 1;gives:heap;", 2, 20);
    fault("barn season 1;gives:sizes;", 2, 20);
    fault("barn season 1;gives:not 1;", 2, 20);
    fault("barn season 1;gives:(1=1);", 2, 22);
    fault("barn season 1;gives:if 1 then 1 else 1 end;", 2, 25);
    fault("barn season 1;gives:if 1=1 else 1 end;", 2, 27);
    fault("barn season 1;gives:if 1=1 then 2 end;", 2, 34);
    fault("barn season 1;gives:if 1=1 then 2 else 3;", 2, 40);
    fault("barn season 1;may:1;", 2, 19);
    fault("barn season 1;may:(1=1);", 2, 20);
    fault("barn season 1;may:1=1=1;", 2, 21);
    fault("barn season 1;may:1=1 or;", 2, 24);
    fault("barn season 1;may:[1=1;", 2, 22);
    fault("barn season 1;may:[[[[[[1=1]]]]]];", 0, -1);
    fault("barn season 1;may:[[[[[[[1=1]]]]]]];", 4, 24);
    fault("barn season 1;may:not not not not not not 1=1;", 0, -1);
    fault("barn season 1;may:not not not not not not (1)=1;", 4, 42);
    fault("barn season 1;may:not [not [not [1=1]]] and [1=(((((1)))))];", 0, -1);
    fault("barn season 1;may:[[[[[[1=(1)]]]]]];", 4, 26);
    fault("barn season 1;gives:((((((1[))))));", 2, 27);
    fault("barn season 1;gives:((((((1))))))+((((((2))))));", 0, -1);
    fault("barn season 1;gives:(((((( if 1=1 then 1 else 2 end ))))));", 4, 27);
    fault("barn season 1;gives:(((((( [", 2, 27);
    String ifs = "if 1=1 then ";
    String ends = " else 1 end";
    fault("barn season 1;gives:" + ifs.repeat(6) + "1" + ends.repeat(6) + ";", 0, -1);
    fault("barn season 1;gives:" + ifs.repeat(7) + "1" + ends.repeat(7) + ";", 4, 92);
    fault("barn season 1;gives:(((((( \u00e9", 1, 27);
    fault("barn season 1;\theap 1;", 1, 14);
    fault("barn season 1;heap 1;\r", 1, 21);
  }

  /** What a law gives, by the heap of place 0 of one heap of 18, which gives as much as is told. */
  private static void worth(String sum, int want) {
    TitheHeap x = told("barn season 3;heap 18;gives:" + sum + ";");
    due("gives : " + sum, x.gives(0), want);
  }

  private static void truth(String truth, boolean holds) {
    TitheHeap x = told("barn season 3;heap 18;gives:5;may:" + truth + ";");
    due("may : " + truth, x.gives(0), holds ? 5 : 0);
  }

  private static void p3Laws() {
    promise = 3;
    worth("0-5", 0);
    worth("7", 7);
    worth("19", 18);
    worth("1+2*3", 7);
    worth("(1+2)*3", 9);
    worth("9-3-2", 4);
    worth("9-(3-2)", 8);
    worth("season", 3);
    worth("heaps", 1);
    worth("place+2", 2);
    worth("all-3", 15);
    worth("size-4", 14);
    worth("999*999*999-999*999-999", 18);
    worth("999*999*2-999*999-999-990", 11 - 1);
    worth("0-999*999*2+999*999+999*2+5", 4);
    worth("(0-999*999*2)*(0-1)-999*999-999-990", 10);
    worth("if 1<2 then 3 else 4 end", 3);
    worth("if 2<1 then 3 else 4 end*2", 8);
    worth("if 2=1 or 2>1 then 3 else 4 end", 3);
    truth("1=1", true);
    truth("1=2", false);
    truth("1<2", true);
    truth("2<2", false);
    truth("3>2", true);
    truth("2>2", false);
    truth("1=1 or 1=1 and 1=2", true);
    truth("[1=1 or 1=1] and 1=2", false);
    truth("not 1=2 and 1=2", false);
    truth("not [1=2 and 1=2]", true);
    truth("not not 1=2", false);
    truth("1=2 or 1=2 or 1=1", true);
    truth("1=1 and 1=1 and 1=2", false);
    truth("0-1<0", true);
  }

  private static void p4() {
    promise = 4;
    TitheHeap x = new TitheHeap();
    due("fault(0)", x.fault(0), 0);
    due("fault(1)", x.fault(1), -1);
    tell(x, "barn season 1;heap 0;");
    due("fault(0)", x.fault(0), 3);
    due("fault(1)", x.fault(1), 19);
    due("fault(2)", x.fault(2), -1);
    due("fault(-1)", x.fault(-1), -1);
    x.barn(1);
    due("one that was not read", x.fault(0), 3);
    tell(x, "barn season 1;");
    due("fault(0)", x.fault(0), 0);
    due("fault(1)", x.fault(1), -1);
  }

  private static void p5() {
    promise = 5;
    TitheHeap x = told(SIX);
    due("heap(0)", x.heap(0), 3);
    due("heap(1)", x.heap(1), 2);
    due("heap(2)", x.heap(2), 1);
    due("heap(3)", x.heap(3), -1);
    due("heap(most)", x.heap(Integer.MAX_VALUE), -1);
    due("heap(-1)", x.heap(-1), -3);
    due("heap(least)", x.heap(Integer.MIN_VALUE), -3);
  }

  private static void p6() {
    promise = 6;
    TitheHeap x = told("barn season 4;heap 5;heap 3;heap 3;heap 1;gives:size-place+season-4;may:size>1;");
    due("gives(0)", x.gives(0), 5);
    due("gives(1)", x.gives(1), 2);
    due("gives(2)", x.gives(2), 1);
    due("gives(3)", x.gives(3), 0);
    due("gives(4)", x.gives(4), -2);
    due("gives(-1)", x.gives(-1), -2);
    x.season(5);
    due("gives(1)", x.gives(1), 3);
    x.season(9);
    due("its SIZE at most", x.gives(2), 3);
    x.season(0);
    due("0 at least", x.gives(2), 0);
  }

  private static void p7() {
    promise = 7;
    TitheHeap x = told(SIX);
    long[][] want = {{5, 3, 3}, {8, 4, 2}, {7, 3, 2}, {5, 3, 3}};
    for (int deed = 0; deed <= 3; deed++) {
      for (int what = 0; what < 3; what++) {
        due("by(" + deed + ", " + what + ")", x.by(deed, what), want[deed][what]);
      }
    }
    due("no heap of 4", x.by(4, 0), -5);
    due("by(-1, 0)", x.by(-1, 0), -5);
    due("by(19, 0)", x.by(19, 0), -5);
    due("by(0, 3)", x.by(0, 3), -2);
    due("by(19, -1)", x.by(19, -1), -2);
    heaps(x, 3, 2, 1);
    x = told("barn season 0;heap 18;");
    due("by(18, 0)", x.by(18, 0), 0);
    due("by(0, 0)", x.by(0, 0), 1);
    due("moon(18)", x.moon(18), 1);
    // of alike ones the first is spared: the second one gives 1, the first one would give 0
    x = told("barn season 0;heap 2;heap 2;gives:place;");
    due("by(2, 0)", x.by(2, 0), 3);
    x = told("barn season 0;heap 2;heap 2;gives:1-place;");
    due("by(2, 0)", x.by(2, 0), 2);
    due("by(0, 0)", x.by(0, 0), 3);
  }

  private static void deeds() {
    p8();
    p9();
    p10();
    p11();
    p12();
    p13();
    p14();
    p15();
    p16();
  }

  private static void p8() {
    promise = 8;
    TitheHeap x = told(SIX);
    due("moon(2)", x.moon(2), 3);
    heaps(x, 2, 2, 2);
    due("moon(0)", x.moon(0), 4);
    heaps(x, 3, 1, 1, 1);
    due("MOONS", x.count(4), 2);
    due("moon(2)", x.moon(2), -12);
    due("moon(18)", x.moon(18), -12);
    due("moon(19)", x.moon(19), -11);
    due("moon(-1)", x.moon(-1), -11);
    due("moon(20)", x.moon(20), -11);
    due("MOONS", x.count(4), 2);
    due("UNDO", x.count(5), 2);
    // nothing is given: no heap more
    x = told("barn season 0;heap 3;heap 1;gives:0;");
    due("moon(0)", x.moon(0), 2);
    heaps(x, 3, 1);
    // all is given: one heap
    x = told("barn season 0;heap 3;heap 1;gives:size;");
    due("moon(0)", x.moon(0), 1);
    heaps(x, 4);
  }

  private static void p9() {
    promise = 9;
    TitheHeap x = told("barn season 0;heap 2;heap 2;heap 1;heap 1;");
    due("moons(0)", x.moons(0), -3);
    due("moons(100)", x.moons(100), -3);
    due("moons(1)", x.moons(1), 3);
    heaps(x, 4, 1, 1);
    due("moons(5)", x.moons(5), 3);
    heaps(x, 3, 2, 1);
    due("MOONS", x.count(4), 6);
    due("UNDO", x.count(5), 2);
    due("moons(99)", x.moons(99), 3);
    due("MOONS", x.count(4), 105);
    due("undo(2)", x.undo(2), 1);
    heaps(x, 4, 1, 1);
    due("MOONS", x.count(4), 1);
  }

  private static void p10() {
    promise = 10;
    TitheHeap x = told(SIX);
    due("split(3, 1)", x.split(3, 1), 4);
    heaps(x, 2, 2, 1, 1);
    due("split(2, 1)", x.split(2, 1), 5);
    due("split(3, 1)", x.split(3, 1), -12);
    due("split(2, 2)", x.split(2, 2), -11);
    due("split(2, 3)", x.split(2, 3), -11);
    due("split(2, 0)", x.split(2, 0), -11);
    due("split(19, 1)", x.split(19, 1), -11);
    due("split(0, -1)", x.split(0, -1), -11);
    due("split(18, 17)", x.split(18, 17), -12);
    due("MOONS", x.count(4), 0);
    due("UNDO", x.count(5), 2);
  }

  private static void p11() {
    promise = 11;
    TitheHeap x = told(SIX);
    due("join(2, 2)", x.join(2, 2), -12);
    due("join(2, 4)", x.join(2, 4), -12);
    due("join(0, 2)", x.join(0, 2), -11);
    due("join(2, 19)", x.join(2, 19), -11);
    due("join(18, 18)", x.join(18, 18), -12);
    due("join(1, 2)", x.join(1, 2), 2);
    heaps(x, 3, 3);
    due("join(3, 3)", x.join(3, 3), 1);
    heaps(x, 6);
    due("UNDO", x.count(5), 2);
    x = told("barn season 0;heap 9;heap 9;");
    due("join(9, 9)", x.join(9, 9), 1);
    heaps(x, 18);
    due("split(18, 17)", x.split(18, 17), 2);
    heaps(x, 17, 1);
    due("join(17, 1)", x.join(17, 1), 1);
  }

  private static void p12() {
    promise = 12;
    TitheHeap x = told(SIX);
    due("season(9)", x.season(9), 2);
    due("season(0)", x.season(0), 9);
    due("season(0)", x.season(0), 0);
    due("season(10)", x.season(10), -11);
    due("season(-1)", x.season(-1), -11);
    due("UNDO", x.count(5), 3);
    due("SEASON", x.count(3), 0);
    x.undo(2);
    due("SEASON", x.count(3), 9);
  }

  private static void p13() {
    promise = 13;
    TitheHeap x = told(SIX);
    due("undo(1)", x.undo(1), -3);
    for (int i = 0; i < 10; i++) {
      x.season(i);
    }
    x.moon(0);
    due("eldest are forgotten", x.count(5), 10);
    TitheHeap y = told(SIX);
    for (int i = 0; i < 12; i++) {
      y.moon(0);
    }
    due("undo(10)", y.undo(10), 0);
    due("MOONS", y.count(4), 2);
    due("undo(0)", x.undo(0), -3);
    due("undo(-1)", x.undo(-1), -3);
    due("undo(11)", x.undo(11), -3);
    due("undo(1)", x.undo(1), 9);
    due("MOONS", x.count(4), 0);
    due("undo(10)", x.undo(10), -3);
    due("undo(9)", x.undo(9), 0);
    due("SEASON", x.count(3), 0);
    x.moon(2);
    x.split(2, 1);
    due("undo(2)", x.undo(2), 0);
    heaps(x, 3, 2, 1);
  }

  private static void p14() {
    promise = 14;
    TitheHeap x = told(SIX);
    due("judge(0, 0)", x.judge(0, 0), -6);
    due("judge(4, 0)", x.judge(4, 0), -2);
    due("judge(-1, 0)", x.judge(-1, 0), -2);
    due("judge(0, 4)", x.judge(0, 4), -2);
    fill(x, 0, 2, 2, 0, 27, 3303 - 2000, 3303, 0);
    // (3,2,1), spared 2: (2,2,2), (3,1,1,1), SEASON 7, 3 can't be SPLIT by 3
    long[] stopped = {3, 1, 4, 6};
    for (int what = 0; what < 4; what++) {
      due("judge(0, " + what + ")", x.judge(0, what), stopped[what]);
    }
    fill(x, 0, 2, 2, 0, 1302, 3201);
    long[] done = {-1, 0, 4, 6};
    for (int what = 0; what < 4; what++) {
      due("judge(0, " + what + ")", x.judge(0, what), done[what]);
    }
    heaps(x, 3, 2, 1);
    due("SEASON", x.count(3), 2);
    due("MOONS", x.count(4), 0);
    due("UNDO", x.count(5), 0);
    x.numbers(0, 0, 0);
    due("no deeds", x.judge(0, 0), -1);
    due("no deeds", x.judge(0, 3), 5);
    long[] ones = {-1, 19, 30, 999, 1000, 1100, 1101, 1900, 2999, 3000, 3100, 3119, 4901, 5000,
        1L << 32, (1L << 32) + 1000, Long.MIN_VALUE, Long.MAX_VALUE, 1302 + 200, 1300};
    for (int i = 0; i < ones.length; i++) {
      fill(x, 1, 3, 0, ones[i]);
      boolean split = ones[i] == 1502;
      due("place of " + ones[i], x.judge(1, 0), 1);
      due("why not " + ones[i], x.judge(1, 1), split ? 2 : 1);
    }
    long[] twos = {4, 18, 1401, 2817, 3404, 3303, 4818};
    for (int i = 0; i < twos.length; i++) {
      fill(x, 1, 3, twos[i]);
      due("why not " + twos[i], x.judge(1, 1), 2);
    }
    // the SEASON of a deed is that of the moons behind it, and no other's
    x = told("barn season 0;heap 6;gives:season;");
    fill(x, 0, 0, 22, 0);
    due("judge(0, 3)", x.judge(0, 3), 2);
    due("by(0, 0)", x.by(0, 0), 0);
  }

  private static void p15() {
    promise = 15;
    TitheHeap x = told(SIX);
    due("perform(0)", x.perform(0), -6);
    due("perform(4)", x.perform(4), -2);
    fill(x, 3, 1, 2, 0, 27, 1303, 0);
    due("perform(3)", x.perform(3), 3);
    heaps(x, 3, 1, 1, 1);
    due("SEASON", x.count(3), 7);
    due("MOONS", x.count(4), 2);
    due("UNDO", x.count(5), 1);
    due("undo(1)", x.undo(1), 0);
    heaps(x, 3, 2, 1);
    fill(x, 3, 1, 19, 0);
    due("perform(3)", x.perform(3), 0);
    due("UNDO", x.count(5), 0);
    x.numbers(3, 1, 0);
    due("perform(3)", x.perform(3), 0);
    due("UNDO", x.count(5), 0);
    fill(x, 3, 1, 3301, 1302);
    due("perform(3)", x.perform(3), 1);
    heaps(x, 4, 2);
  }

  /** A year told by the document's own words, as deeds that are done one by one. */
  private static void p16() {
    promise = 16;
    TitheHeap x = told(SIX);
    due("year(1, 0)", x.year(1, 0), -3);
    due("year(1, 41)", x.year(1, 41), -3);
    int[] seeds = {0, 1, 2, 77, -5, Integer.MAX_VALUE, Integer.MIN_VALUE, 123456789};
    for (int seed : seeds) {
      TitheHeap y = told(SIX);
      TitheHeap z = told(SIX);
      int s = seed;
      int could = 0;
      for (int i = 0; i < 40; i++) {
        int[] draws = new int[3];
        int at = s;
        for (int j = 0; j < 3; j++) {
          at = 1103515245 * at + 12345;
          draws[j] = at >>> 16;
        }
        int kind = draws[0] % 6;
        int used = kind < 3 ? 1 : kind < 5 ? 2 : 3;
        for (int j = 0; j < used; j++) {
          s = 1103515245 * s + 12345;
        }
        int answer = kind < 3 ? z.moon(0) : kind == 3 ? z.moon(draws[1] % 8)
            : kind == 4 ? z.season(draws[1] % 10) : z.join(draws[1] % 6, draws[2] % 6);
        could += answer >= 0 ? 1 : 0;
      }
      due("year(" + seed + ", 40)", y.year(seed, 40), could);
      for (int what = 0; what <= 4; what++) {
        due("count(" + what + ") behind year(" + seed + ", 40)", y.count(what), z.count(what));
      }
      due("UNDO", y.count(5), 1);
      due("undo(1)", y.undo(1), 0);
      heaps(y, 3, 2, 1);
      due("SEASON", y.count(3), 2);
    }
    due("a year of nothing", nothing(x), 0);
    due("UNDO", x.count(5), 0);
  }

  /** A year of one time that can't be done. */
  private static int nothing(TitheHeap x) {
    for (int seed = 0; seed < 1000; seed++) {
      int a = 1103515245 * seed + 12345;
      int b = 1103515245 * a + 12345;
      if ((a >>> 16) % 6 == 3 && (b >>> 16) % 8 == 7) {
        return x.year(seed, 1);
      }
    }
    return -99;
  }

  private static void going() {
    p17();
    p18();
    p19();
    p20();
  }

  private static void p17() {
    promise = 17;
    TitheHeap x = told("barn season 0;heap 2;");
    for (int n = 0; n < 4; n++) {
      due("at(" + n + ")", x.at(n), n % 2);
    }
    due("at(10^15)", x.at(1000000000000000L), 0);
    due("at(10^15 - 1)", x.at(999999999999999L), 1);
    due("at(10^15 + 1)", x.at(1000000000000001L), -3);
    due("at(-1)", x.at(-1), -3);
    // (1,1,1,1): (4), (3,1), (2,2), (2,1,1), (3,1), ..
    x = told("barn season 0;heap 1;heap 1;heap 1;heap 1;");
    int[] stands = {4, 0, 1, 2, 3, 1, 2, 3, 1};
    for (int n = 0; n < stands.length; n++) {
      due("at(" + n + ")", x.at(n), stands[n]);
    }
    due("at(3 * 10^14 + 2)", x.at(300000000000002L), 1);
    due("MOONS", x.count(4), 0);
  }

  private static void p18() {
    promise = 18;
    TitheHeap x = told("barn season 0;heap 1;heap 1;heap 1;heap 1;");
    due("round(0)", x.round(0), 2);
    due("round(1)", x.round(1), 3);
    due("round(2)", x.round(2), -2);
    due("round(-1)", x.round(-1), -2);
    x.moons(2);
    due("round(0)", x.round(0), 0);
    due("round(1)", x.round(1), 3);
  }

  private static void p19() {
    promise = 19;
    // of 4: (4) (3,1) (2,2) (2,1,1) (1,1,1,1)
    TitheHeap x = told("barn season 0;heap 4;");
    long[] four = {5, 1, 3, 1, 2, 5};
    // of 8 there are two rounds: of 4 stands and of 2
    TitheHeap y = told("barn season 0;heap 4;heap 3;heap 1;");
    TitheHeap z = told("barn season 0;heap 4;heap 2;heap 2;");
    for (int what = 0; what < 6; what++) {
      due("all(" + what + ") of 4", x.all(what), four[what]);
    }
    due("all(0) of 8", y.all(0), 22);
    due("all(2) of 8", y.all(2), 6);
    due("all(3) of 8", y.all(3), 2);
    due("all(5) of 8", y.all(5) + z.all(5), 22);
    due("(4,3,1) comes round", y.round(1), 4);
    due("(4,2,2) comes round", z.round(1), 2);
    due("all(6)", x.all(6), -2);
    due("all(-1)", x.all(-1), -2);
    // nothing is given: all come again, each its own round
    x = told("barn season 0;heap 4;gives:0;");
    long[] still = {5, 0, 5, 5, 0, 1};
    for (int what = 0; what < 6; what++) {
      due("all(" + what + ") of nothing given", x.all(what), still[what]);
    }
    due("all(0) of 18", told("barn season 0;heap 18;").all(0), 385);
  }

  private static void p20() {
    promise = 20;
    // to (3,1) lead (4) and (2,1,1); to (2,1,1) leads (2,2); to (4) leads (1,1,1,1)
    TitheHeap x = told("barn season 0;heap 3;heap 1;");
    int[] want = {1, 2, 2, 1, 2};
    for (int n = 0; n < want.length; n++) {
      due("ahead(" + n + ")", x.ahead(n), want[n]);
    }
    due("ahead(9)", x.ahead(9), 1);
    due("ahead(10)", x.ahead(10), -3);
    due("ahead(-1)", x.ahead(-1), -3);
  }

  private static void withSomeSpared() {
    p21();
    p22();
    p23();
    p24();
    p25();
  }

  /** The refusals of all calls that are told a stand. */
  private static void toldRefusals(int call) {
    TitheHeap x = told(SIX);
    due("no such TRAY", ask(x, call, 4), -2);
    due("no such TRAY", ask(x, call, -1), -2);
    due("MISSING", ask(x, call, 0), -6);
    x.numbers(0, 0, 0);
    due("no numbers", ask(x, call, 0), -4);
    x.numbers(0, 0, 19);
    due("19 numbers", ask(x, call, 0), -4);
    x.numbers(0, 0, 18);
    due("a 0", ask(x, call, 0), -3);
    fill(x, 0, 3, 6, 0);
    due("6 and 0", ask(x, call, 0), -3);
    fill(x, 0, 3, 5 + (1L << 32), 1);
    due("no SIZE", ask(x, call, 0), -3);
    fill(x, 0, 3, 19);
    due("no SIZE", ask(x, call, 0), -3);
    fill(x, 0, 3, 5);
    due("not as much", ask(x, call, 0), -5);
    fill(x, 0, 3, 18, 18);
    due("not as much", ask(x, call, 0), -5);
  }

  private static int ask(TitheHeap x, int call, int tray) {
    switch (call) {
      case 21:
        return x.soonest(tray);
      case 22:
        return x.way(tray, 0);
      case 26:
        return x.number(tray);
      default:
        return x.under(tray);
    }
  }

  private static void p21() {
    promise = 21;
    toldRefusals(21);
    TitheHeap x = told(SIX);
    fill(x, 0, 0, 2, 4);
    due("to (4,2)", x.soonest(0), 3);
    fill(x, 0, 0, 1, 2, 3);
    due("as it is", x.soonest(0), 0);
    fill(x, 0, 0, 6);
    due("to (6)", x.soonest(0), -1);
    fill(x, 0, 0, 2, 2, 2);
    due("to (2,2,2)", x.soonest(0), 1);
    fill(x, 0, 0, 3, 3);
    due("to (3,3)", x.soonest(0), 3);
  }

  private static void p22() {
    promise = 22;
    toldRefusals(22);
    TitheHeap x = told(SIX);
    fill(x, 0, 0, 2, 4);
    int[] row = {1, 0, 4, -1};
    for (int i = 0; i < row.length; i++) {
      due("way(0, " + i + ")", x.way(0, i), row[i]);
    }
    due("way(0, -1)", x.way(0, -1), -3);
    due("way(0, most)", x.way(0, Integer.MAX_VALUE), -1);
    fill(x, 0, 0, 1, 2, 3);
    due("as it is", x.way(0, 0), -1);
    fill(x, 0, 0, 6);
    due("it can't be", x.way(0, 0), -1);
    due("-3 comes ahead of NONE", x.way(0, -1), -3);
    fill(x, 0, 0, 5);
    due("all of soonest() is told ahead of -3: -5", x.way(0, -1), -5);
    x.numbers(0, 0, 0);
    due("-4 is told ahead of -3", x.way(0, -1), -4);
    due("-6 is told ahead of -3", x.way(1, -1), -6);
  }

  private static void p23() {
    promise = 23;
    TitheHeap x = told(SIX);
    due("rows(3, 0)", x.rows(3, 0), 1);
    due("rows(4, 0)", x.rows(4, 0), 0);
    due("rows(3, 1)", x.rows(3, 1), 3);
    due("rows(4, 1)", x.rows(4, 1), 1);
    due("rows(3, 2)", x.rows(3, 2), 8);
    due("rows(4, 2)", x.rows(4, 2), 5);
    due("rows(18, 2)", x.rows(18, 2), 0);
    due("rows(1, 9)", x.rows(1, 9), 0);
    due("rows(0, 2)", x.rows(0, 2), -3);
    due("rows(19, 2)", x.rows(19, 2), -3);
    due("rows(3, -1)", x.rows(3, -1), -3);
    due("rows(3, 10)", x.rows(3, 10), -3);
    // nothing changes: 5 sizes or none in each moon
    x = told("barn season 0;heap 1;heap 2;heap 3;heap 4;heap 5;heap 3;gives:0;");
    due("rows(6, 9)", x.rows(6, 9), 10077696L);
  }

  private static void p24() {
    promise = 24;
    TitheHeap x = told(SIX);
    due("keeps(1)", x.keeps(1), 0);
    due("keeps(2)", x.keeps(2), 2);
    due("keeps(3)", x.keeps(3), -1);
    due("keeps(18)", x.keeps(18), -1);
    due("keeps(0)", x.keeps(0), -3);
    due("keeps(19)", x.keeps(19), -3);
    // (2,2,2,2): 2 spared (3,2,1,1,1), from which all make a 4 or a 5
    x = told("barn season 0;heap 2;heap 2;heap 2;heap 2;");
    due("keeps(3)", x.keeps(3), 1);
    // (6): none spared (3,3), 6 spared (6); (3,3): none spared (6), 3 spared (3,3)
    x = told("barn season 0;heap 6;gives:3;");
    due("keeps(3)", x.keeps(3), -1);
    due("keeps(2)", x.keeps(2), 0);
    // (1,1,1): none spared (3), 1 spared (2,1); (2,1): 1 goes to 2 or stays, 2 spared or not: (2,1)
    x = told("barn season 0;heap 1;heap 1;heap 1;may:heaps>2;");
    due("keeps(2)", x.keeps(2), -1);
  }

  private static void p25() {
    promise = 25;
    due("stands()", told(SIX).stands(), 7);
    due("stands()", told("barn season 0;heap 4;gives:0;").stands(), 1);
    due("stands()", new TitheHeap().stands(), 1);
  }

  private static void amongAll() {
    p26();
    p27();
    p28();
    p29();
    p30();
  }

  private static void p26() {
    promise = 26;
    toldRefusals(26);
    TitheHeap x = told(SIX);
    long[][] stands = {{6}, {1, 5}, {4, 2}, {1, 4, 1}, {3, 3}, {1, 2, 3}, {1, 1, 1, 3}, {2, 2, 2},
        {1, 2, 1, 2}, {1, 1, 2, 1, 1}, {1, 1, 1, 1, 1, 1}};
    for (int i = 0; i < stands.length; i++) {
      fill(x, 2, i % 4, stands[i]);
      due("number of stand " + i, x.number(2), i);
    }
    x = told("barn season 0;heap 18;");
    x.numbers(0, 0, 18);
    for (int i = 0; i < 18; i++) {
      x.write(0, i, 1);
    }
    due("the last of 18", x.number(0), 384);
  }

  private static void p27() {
    promise = 27;
    TitheHeap x = told(SIX);
    due("bounded(1, 6)", x.bounded(1, 6), 1);
    due("bounded(1, 5)", x.bounded(1, 5), 0);
    due("bounded(3, 3)", x.bounded(3, 3), 3);
    due("bounded(18, 1)", x.bounded(18, 1), 1);
    due("bounded(18, 18)", x.bounded(18, 18), 11);
    due("bounded(0, 1)", x.bounded(0, 1), -3);
    due("bounded(19, 1)", x.bounded(19, 1), -3);
    due("bounded(1, 0)", x.bounded(1, 0), -3);
    due("bounded(1, 19)", x.bounded(1, 19), -3);
  }

  private static void p28() {
    promise = 28;
    due("(3,2,1)", told(SIX).side(), 5);
    due("(4,1,1)", told("barn season 0;heap 4;heap 1;heap 1;").side(), 6);
    due("(6)", told("barn season 0;heap 6;").side(), 10);
    due("(5,1)", told("barn season 0;heap 5;heap 1;").side(), 9);
  }

  private static void p29() {
    promise = 29;
    toldRefusals(29);
    TitheHeap x = told("barn season 0;heap 4;heap 1;heap 1;");
    fill(x, 0, 0, 3, 3);
    due("(4,1,1) under (3,3)", x.under(0), 0);
    fill(x, 0, 0, 6);
    due("(4,1,1) under (6)", x.under(0), 1);
    fill(x, 0, 0, 1, 1, 4);
    due("(4,1,1) under itself", x.under(0), 1);
    fill(x, 0, 0, 2, 4);
    due("(4,1,1) under (4,2)", x.under(0), 1);
    fill(x, 0, 0, 1, 2, 3);
    due("(4,1,1) under (3,2,1)", x.under(0), 0);
    x = told("barn season 0;heap 3;heap 3;");
    fill(x, 0, 0, 4, 1, 1);
    due("(3,3) under (4,1,1)", x.under(0), 0);
  }

  private static void p30() {
    promise = 30;
    due("(6)", told("barn season 0;heap 6;").below(), 11);
    // under (3,3): (3,3) (3,2,1) (3,1,1,1) (2,2,2) (2,2,1,1) (2,1,1,1,1) (1,1,1,1,1,1)
    due("(3,3)", told("barn season 0;heap 3;heap 3;").below(), 7);
    // the same but for (3,3), and (4,1,1)
    due("(4,1,1)", told("barn season 0;heap 4;heap 1;heap 1;").below(), 7);
    due("(1,1)", told("barn season 0;heap 1;heap 1;").below(), 1);
  }

  private static void counted() {
    p31();
    p32();
    p33();
    p34();
    p35();
  }

  /** The refusals of all calls that are told counts; calm ones take no NONE. */
  private static void countRefusals(int call, boolean calm) {
    TitheHeap x = told(SIX);
    due("no such TRAY", askCounts(x, call, 4), -2);
    due("no such TRAY", askCounts(x, call, -1), -2);
    due("MISSING", askCounts(x, call, 1), -6);
    x.numbers(1, 0, 0);
    due("no numbers", askCounts(x, call, 1), -4);
    x.numbers(1, 0, 9);
    due("9 numbers", askCounts(x, call, 1), -4);
    fill(x, 1, 1, 3, 0);
    due("a 0", askCounts(x, call, 1), -3);
    fill(x, 1, 1, 3, 19);
    due("a 19", askCounts(x, call, 1), -3);
    fill(x, 1, 1, -2, 3);
    due("a -2", askCounts(x, call, 1), -3);
    fill(x, 1, 3, 3 + (1L << 32));
    due("a great one", askCounts(x, call, 1), -3);
    fill(x, 1, 0, -1);
    due("NONE", askCounts(x, call, 1) == -3 ? 1 : 0, calm ? 1 : 0);
  }

  private static long askCounts(TitheHeap x, int call, int tray) {
    switch (call) {
      case 31:
        return x.counted(tray);
      case 32:
        return x.countedBy(tray, 0);
      case 33:
        return x.spared(tray, 0);
      case 34:
        return x.seasons(tray);
      default:
        return x.attempt(tray);
    }
  }

  private static void p31() {
    promise = 31;
    countRefusals(31, false);
    TitheHeap x = told(SIX);
    fill(x, 0, 0, 3, 4);
    due("3, 4", x.counted(0), 4);
    fill(x, 0, 0, 4, -1, 2);
    due("4, any, 2", x.counted(0), 4);
    fill(x, 0, 0, 5);
    due("5", x.counted(0), 0);
    fill(x, 0, 0, -1, -1);
    due("any, any", x.counted(0), 13);
    x = told("barn season 0;heap 1;heap 2;heap 3;heap 4;heap 5;heap 3;gives:0;");
    fill(x, 0, 0, -1, 6, -1, 6, -1, 6, -1, 6);
    due("8 moons", x.counted(0), 1679616L);
  }

  private static void p32() {
    promise = 32;
    countRefusals(32, false);
    TitheHeap x = told(SIX);
    fill(x, 0, 0, 3, 4);
    due("countedBy(0, 0)", x.countedBy(0, 0), 0);
    due("countedBy(0, 1)", x.countedBy(0, 1), 1);
    due("countedBy(0, 2)", x.countedBy(0, 2), -1);
    due("countedBy(0, -1)", x.countedBy(0, -1), -3);
    due("-6 is told ahead of -3", x.countedBy(2, -1), -6);
    fill(x, 0, 0, 4, -1, 2);
    int[] row = {1, 0, 0};
    for (int i = 0; i < 3; i++) {
      due("countedBy(0, " + i + ")", x.countedBy(0, i), row[i]);
    }
    // the first deed leads nowhere: 4 and 4 heaps, by (2,2,2) alone
    fill(x, 0, 0, 3, 4, 2);
    int[] later = {2, 0, 0};
    for (int i = 0; i < 3; i++) {
      due("countedBy(0, " + i + ")", x.countedBy(0, i), later[i]);
    }
    // (6): 0 (5,1), then 1 spared (4,1,1)
    TitheHeap y = told("barn season 0;heap 6;");
    fill(y, 0, 0, 2, 3);
    due("countedBy(0, 0)", y.countedBy(0, 0), 0);
    due("countedBy(0, 1)", y.countedBy(0, 1), 1);
    fill(y, 0, 0, 1, 2, 3);
    due("countedBy(0, 0)", y.countedBy(0, 0), 6);
    due("countedBy(0, 1)", y.countedBy(0, 1), 0);
    due("countedBy(0, 2)", y.countedBy(0, 2), 1);
    fill(x, 0, 0, 5, 3);
    due("there are none", x.countedBy(0, 0), -1);
    due("there are none", x.countedBy(0, 1), -1);
  }

  private static void p33() {
    promise = 33;
    countRefusals(33, false);
    TitheHeap x = told(SIX);
    fill(x, 0, 0, 3, 4);
    due("spared(0, 0)", x.spared(0, 0), 13);
    due("spared(0, 1)", x.spared(0, 1), 7);
    due("spared(0, 2)", x.spared(0, 2), -7);
    due("spared(0, -1)", x.spared(0, -1), -3);
    fill(x, 0, 0, 4, -1, 2);
    int[] bits = {2, 3, 25};
    for (int i = 0; i < 3; i++) {
      due("spared(0, " + i + ")", x.spared(0, i), bits[i]);
    }
    fill(x, 0, 0, 5, 3);
    due("there are none", x.spared(0, 0), 0);
    due("there are none", x.spared(0, 1), 0);
    due("-7 though there are none", x.spared(0, 2), -7);
  }

  private static void p34() {
    promise = 34;
    countRefusals(34, true);
    // one heap of 6 gives as much as the season: none, 1 to 5, all of it
    TitheHeap x = told("barn season 8;heap 6;gives:season;");
    fill(x, 0, 0, 1);
    due("1", x.seasons(0), 0b1111000001);
    fill(x, 0, 0, 2);
    due("2", x.seasons(0), 0b0000111110);
    fill(x, 0, 0, 3);
    due("3", x.seasons(0), 0);
    // 1: (5,1) (4,2); 2: (4,2) (4,2); 3: (3,3) (6); 4: (4,2) (6); 5: (5,1) (6)
    fill(x, 0, 0, 2, 1);
    due("2, 1", x.seasons(0), 0b0000111000);
    fill(x, 0, 0, 2, 2);
    due("2, 2", x.seasons(0), 0b0000000110);
    due("SEASON", x.count(3), 8);
    due("by(0, 1)", x.by(0, 1), 1);
  }

  private static void p35() {
    promise = 35;
    countRefusals(35, true);
    TitheHeap x = told("barn season 8;heap 6;gives:season;");
    fill(x, 0, 0, 3);
    due("there are none", x.attempt(0), -1);
    // SEASONS 1 and 2, behind one MOON: (5,1) and (4,2). None spared: (4,2) by both; 1 spared:
    // (4,1,1) by the one, it can't be by the other
    x = told("barn season 8;heap 6;gives:season;may:season>0 and season<3;");
    fill(x, 0, 0, 2);
    due("seasons", x.seasons(0), 0b0000000110);
    due("attempt", x.attempt(0), 1);
    due("SEASON", x.count(3), 8);
    due("by(0, 1)", x.by(0, 1), 1);
    // SEASONS 1 and 2 do the same: nothing tells them apart, so the first
    x = told("barn season 8;heap 6;gives:2;may:season>0 and season<3;");
    fill(x, 0, 0, 2);
    due("attempt", x.attempt(0), 0);
    // SEASONS 1 to 4: (5,1) (4,2) (3,3) (4,2). None spared: (4,2) (4,2) (6) (6); 1 spared: 3 heaps
    // by SEASON 1 alone; 2: 3 by 2, 2 by 4; 3: 2 by 3 alone; 4: (4,2) by 2 and 4
    x = told("barn season 8;heap 6;gives:season;may:season>0 and season<5;");
    fill(x, 0, 0, 2);
    due("two and two", x.attempt(0), 0);
    fill(x, 0, 0, 2, 2);
    due("seasons", x.seasons(0), 0b0000000110);
    // both have (4,2): none spared, 3 heaps or 2
    due("attempt", x.attempt(0), 0);
    // SEASON 0, too: (5,1) by 0, (4,2) by 1; none spared (4,2) by both, 1 spared: by 0 alone
    x = told("barn season 8;heap 6;gives:season+1;may:season<2;");
    fill(x, 0, 0, 2);
    due("seasons", x.seasons(0), 0b0000000011);
    due("attempt", x.attempt(0), 1);
    // (5,1) by SEASON 1, (3,3) by 3, and so it stays: only a size that the one lacks tells
    x = told("barn season 8;heap 6;gives:if heaps=1 then season else 0 end;may:season=1 or season=3;");
    fill(x, 0, 0, 2, 2);
    due("seasons", x.seasons(0), 0b0000001010);
    due("1 is no heap by SEASON 3", x.attempt(0), 1);
    // SEASONS 4 and 9: (6), which stays by none spared; 6 spared: the same, so the first
    x = told("barn season 8;heap 6;gives:size;may:season=4 or season=9;");
    fill(x, 0, 0, 1);
    due("all seasons", x.seasons(0), 0b1111111111);
    due("attempt", x.attempt(0), 0);
    // (4,2) by SEASON 2, (3,3) by SEASON 3, then each gives all
    x = told("barn season 8;heap 6;gives:if heaps=1 then season else size end;"
        + "may:season=2 or season=3;");
    fill(x, 0, 0, 2);
    due("seasons", x.seasons(0), 0b0000001100);
    // none spared: (6) by both; 2 spared: (4,2) by SEASON 2, it can't be by 3
    due("attempt", x.attempt(0), 2);
  }

  private static void byTurns() {
    p36();
    p37();
    p38();
  }

  private static void p36() {
    promise = 36;
    TitheHeap x = told("barn season 0;heap 2;heap 2;heap 1;heap 1;");
    due("forces(4)", x.forces(4), 0);
    due("forces(3)", x.forces(3), 1);
    due("forces(2)", x.forces(2), -1);
    due("forces(18)", x.forces(18), 0);
    due("forces(0)", x.forces(0), -3);
    due("forces(19)", x.forces(19), -3);
    // (1,1,1,1,1,1): the first one makes (6)
    x = told("barn season 0;heap 1;heap 1;heap 1;heap 1;heap 1;heap 1;");
    due("forces(1)", x.forces(1), 1);
    // of 3: (3) (2,1) (1,1,1). From (2,1): 0 and 2 spared: (2,1); 1 spared: (1,1,1), from which
    // the other one makes (3) or, 1 spared, (2,1)
    x = told("barn season 0;heap 2;heap 1;");
    due("forces(1)", x.forces(1), -1);
    // (2,2,1): 0 (3,1,1), from which the other one goes back by 1; 1 (2,1,1,1), from which the
    // other one makes (4,1), (3,2) or (3,1,1), which the first one makes (3,2); 2 (2,2,1)
    x = told("barn season 0;heap 2;heap 2;heap 1;");
    due("forces(2)", x.forces(2), 3);
    due("forces(1)", x.forces(1), -1);
    due("forces(3)", x.forces(3), 0);
    // (2,2,2,1): 0 (4,1,1,1), from which all make 3 at most: (4,3) (4,3) (3,3,1); nothing at once
    x = told("barn season 0;heap 2;heap 2;heap 2;heap 1;");
    due("forces(3)", x.forces(3), 2);
    // (3,1): 1 spared (2,1,1), from which the other one makes (3,1) by none spared, for ever
    x = told("barn season 0;heap 3;heap 1;gives:all-heaps;");
    due("forces(1)", x.forces(1), -1);
    // (2,1,1): 2 spared (2,2), which the other one keeps, but the first one makes (4)
    x = told("barn season 0;heap 2;heap 1;heap 1;gives:all-heaps;");
    due("forces(1)", x.forces(1), 3);
    due("best(1)", x.best(1), 2);
  }

  private static void p37() {
    promise = 37;
    TitheHeap x = told("barn season 0;heap 2;heap 2;heap 1;heap 1;");
    due("it is so", x.best(4), -1);
    due("best(3)", x.best(3), 0);
    due("it doesn't", x.best(2), -1);
    due("it is so", x.best(18), -1);
    due("best(0)", x.best(0), -3);
    due("best(19)", x.best(19), -3);
    // (2,2,1): 0 is no help, 1 is: see promise 36
    x = told("barn season 0;heap 2;heap 2;heap 1;");
    due("best(2)", x.best(2), 1);
    due("it does not", x.best(1), -1);
    x = told("barn season 0;heap 2;heap 2;heap 2;heap 1;");
    due("best(3)", x.best(3), 0);
    // (2,2,2): by none spared (3,1,1,1), of which the other one makes (4,1,1); by 2 spared
    // (2,2,1,1), of which all make two at most
    x = told("barn season 0;heap 2;heap 2;heap 2;gives:heaps-2;");
    due("forces(2)", x.forces(2), 2);
    due("best(2)", x.best(2), 2);
    // by none spared and by 3 spared there are two
    x = told("barn season 0;heap 3;heap 2;heap 1;gives:if place=0 then 2 else size end;");
    due("by(0, 1)", x.by(0, 1), 2);
    due("by(1, 1)", x.by(1, 1), 3);
    due("by(2, 1)", x.by(2, 1), 3);
    due("by(3, 1)", x.by(3, 1), 2);
    due("the first of two", x.best(2), 0);
    due("at once", x.forces(2), 1);
  }

  private static void p38() {
    promise = 38;
    TitheHeap x = told(SIX);
    due("(3,2,1) loses", x.takes(0), -1);
    due("(3,2,1) loses", x.takes(1), -1);
    due("takes(2)", x.takes(2), -2);
    due("takes(-1)", x.takes(-1), -2);
    // 5 ^ 4 ^ 3 = 2: 3 becomes 1, and no other one can be less
    x = told("barn season 0;heap 5;heap 4;heap 3;");
    due("place", x.takes(0), 2);
    due("how much", x.takes(1), 2);
    // 7 ^ 7 ^ 3 = 3: the first 7 becomes 4
    x = told("barn season 0;heap 7;heap 7;heap 3;");
    due("place", x.takes(0), 0);
    due("how much", x.takes(1), 3);
    due("nothing is taken", x.count(0), 17);
  }

  private static void chances() {
    p39();
    p40();
  }

  private static void p39() {
    promise = 39;
    // (3,2,1): lot 0 (3,2,1), 1 (2,2,2), 2 (2,2,1,1), 3 to 9 (3,2,1)
    TitheHeap x = told(SIX);
    due("above", x.chance(3, 1, 0), 9);
    due("below", x.chance(3, 1, 1), 10);
    due("for sure", x.chance(4, 1, 0), 1);
    due("for sure", x.chance(4, 1, 1), 1);
    due("never", x.chance(2, 1, 0), 0);
    due("never", x.chance(2, 1, 1), 1);
    due("now", x.chance(3, 0, 0), 1);
    due("now", x.chance(2, 0, 0), 0);
    // behind 2: of 100 (3,2,1) again 8 * 9; (2,2,2): never 3 or less; (2,2,1,1): lots 0, 1 (3,2,1),
    // 2, 3 (3,1,1,1), others (4,1,1): 8
    due("above", x.chance(3, 2, 0), 4);
    due("below", x.chance(3, 2, 1), 5);
    due("18 at most", x.chance(18, 7, 0), 1);
    due("18 at most", x.chance(18, 7, 1), 1);
    due("1 at most", x.chance(1, 7, 0), 0);
    due("what", x.chance(0, 9, 2), -2);
    due("what", x.chance(1, 1, -1), -2);
    due("k", x.chance(0, 1, 0), -3);
    due("k", x.chance(19, 1, 0), -3);
    due("n", x.chance(1, 8, 0), -3);
    due("n", x.chance(1, -1, 0), -3);
    // the heap of the lot's PLACE is spared, not the first of alike ones: (1,1), the last gives
    x = told("barn season 0;heap 1;heap 1;heap 1;heap 1;gives:1;may:place>1;");
    due("above", x.chance(3, 1, 0), 4);
    due("below", x.chance(3, 1, 1), 5);
  }

  private static void p40() {
    promise = 40;
    TitheHeap x = told(SIX);
    due("now", x.mean(0, 0), 3);
    due("now", x.mean(0, 1), 1);
    due("above", x.mean(1, 0), 14);
    due("below", x.mean(1, 1), 5);
    // 8 * 28 by (3,2,1); (2,2,2): spared 2 by lots 0 to 2, else 3: 27; (2,2,1,1): 4 * 3 + 6 * 4 = 36
    due("above", x.mean(2, 0), 287);
    due("below", x.mean(2, 1), 100);
    due("n", x.mean(8, 0), -3);
    due("n", x.mean(-1, 0), -3);
    due("what", x.mean(8, 2), -2);
    due("what", x.mean(0, -1), -2);
    x = told("barn season 0;heap 18;gives:0;");
    due("7 moons", x.mean(7, 0), 18);
    due("7 moons", x.mean(7, 1), 1);
  }

  private static void traysAndImages() {
    p41();
    p42();
    p43();
    p44();
    p45();
    p46();
  }

  private static void p41() {
    promise = 41;
    TitheHeap x = new TitheHeap();
    due("no such TRAY", x.numbers(-1, 0, 1), -2);
    due("no such TRAY", x.numbers(4, 0, 1), -2);
    due("no such sort", x.numbers(0, -1, 1), -2);
    due("no such sort", x.numbers(0, 4, 99), -2);
    due("still MISSING", x.write(0, 0, 1), -6);
    due("n", x.numbers(0, 0, 41), -3);
    due("40", x.numbers(3, 3, 40), 0);
    due("the last", x.write(3, 39, 5), 5);
    due("n", x.numbers(3, 0, -1), -3);
    due("it stays", x.write(3, 39, 1L << 40), 1L << 40);
    // all 0 again: a 1 that was there would tell the stand
    x.numbers(0, 0, 1);
    x.write(0, 0, 1);
    due("number(0)", x.number(0), 0);
    x.numbers(0, 0, 1);
    due("number(0)", x.number(0), -3);
    due("none", x.numbers(0, 2, 0), 0);
    due("none", x.write(0, 0, 0), -7);
  }

  private static void p42() {
    promise = 42;
    TitheHeap x = new TitheHeap();
    long v = 0x8182838485868788L;
    long[] cut = {(byte) 0x88, (short) 0x8788, 0x85868788, v};
    for (int sort = 0; sort < 4; sort++) {
      x.numbers(sort, sort, 2);
      due("sort " + sort, x.write(sort, 1, v), cut[sort]);
      due("sort " + sort, x.write(sort, 0, -1), -1);
      due("sort " + sort, x.write(sort, 0, 127), 127);
    }
    due("8 bits", x.write(0, 0, 128), -128);
    due("16 bits", x.write(1, 0, 32768), -32768);
    due("no such TRAY", x.write(4, 0, 1), -2);
    due("no such number", x.write(0, 2, 1), -7);
    due("no such number", x.write(0, -1, 1), -7);
    due("MISSING", new TitheHeap().write(0, 5, 1), -6);
  }

  private static void p43() {
    promise = 43;
    TitheHeap x = told(SIX);
    due("MISSING", x.lists(0, 99), -6);
    due("no such TRAY", x.lists(4, 0), -2);
    x.numbers(0, 0, 3);
    due("the number", x.lists(0, 11), -3);
    due("the number", x.lists(0, -1), -3);
    due("(3,2,1)", x.lists(0, 5), 3);
    due("number(0)", x.number(0), 5);
    due("(6) as well", x.lists(0, 0), 1);
    due("6, 2, 1: not as much", x.number(0), -5);
    due("(3,1,1,1) as far as it goes", x.lists(0, 6), 3);
    due("3, 1, 1", x.number(0), -5);
    x.numbers(0, 0, 0);
    due("no places", x.lists(0, 6), 0);
    x.numbers(0, 0, 18);
    TitheHeap y = told("barn season 0;heap 18;");
    y.numbers(0, 0, 18);
    due("(1, ..)", y.lists(0, 384), 18);
    due("number(0)", y.number(0), 384);
  }

  private static void p44() {
    promise = 44;
    TitheHeap x = told(SIX);
    due("image(2)", x.image(2), -2);
    due("image(-1)", x.image(-1), -2);
    x.moon(0);
    due("image(1)", x.image(1), 0);
    due("UNDO stays", x.count(5), 1);
    due("the other is none", x.restore(0), -5);
    x.moon(2);
    due("image(1)", x.image(1), 0);
    x.moons(9);
    x.restore(1);
    heaps(x, 2, 2, 2);
  }

  private static void p45() {
    promise = 45;
    TitheHeap x = new TitheHeap();
    due("restore(2)", x.restore(2), -2);
    due("restore(-1)", x.restore(-1), -2);
    due("restore(0)", x.restore(0), -5);
    x.image(0);
    tell(x, "barn season 4;heap 5;heap 3;gives:season;");
    x.moon(5);
    x.season(1);
    x.image(1);
    x.numbers(2, 0, 4);
    tell(x, "barn season 0;heap 7;may:1=2;");
    due("restore(1)", x.restore(1), 0);
    heaps(x, 5, 3);
    int[] counts = {8, 2, 4, 1, 1, 0, 0, 4};
    for (int what = 0; what < 8; what++) {
      due("count(" + what + ")", x.count(what), counts[what]);
    }
    due("the law", x.gives(0), 1);
    due("TRAYS stay", x.write(2, 3, 9), 9);
    due("undo(1)", x.undo(1), -3);
    due("restore(0)", x.restore(0), 0);
    heaps(x, 1);
    due("LINES", x.count(7), 0);
    due("restore(1)", x.restore(1), 0);
    due("moon(0)", x.moon(0), 3);
    heaps(x, 4, 2, 2);
  }

  private static void p46() {
    promise = 46;
    TitheHeap x = told("barn season 3;heap 4;heap 2;gives:1;");
    x.feed(1, 2, 3, 4, 5);
    x.moons(3);
    x.season(5);
    int[] counts = {6, 3, 5, 5, 3, 2, 20, 4};
    for (int what = 0; what < 8; what++) {
      due("count(" + what + ")", x.count(what), counts[what]);
    }
    due("count(8)", x.count(8), -1);
    due("count(-1)", x.count(-1), -1);
  }
}
