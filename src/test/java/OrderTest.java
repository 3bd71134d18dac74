/**
 * Calls that could be refused for several reasons at once: the answer is the one that the call
 * tells first, and every refusal comes ahead of NONE.
 */
public final class OrderTest {
  private static final int MISSING = 3;
  private static int wrong = 0;
  private static int asked = 0;

  private static void due(String call, long got, long want) {
    asked++;
    if (got != want) {
      wrong++;
      System.out.println(call + " answered " + got + ", due is " + want);
    }
  }

  /** A new object (one heap of 1) with a TRAY of these numbers. */
  private static TitheHeap with(long... v) {
    TitheHeap x = new TitheHeap();
    x.numbers(0, 3, v.length);
    for (int i = 0; i < v.length; i++) {
      x.write(0, i, v[i]);
    }
    return x;
  }

  public static void main(String[] args) {
    barnAndDeeds();
    told();
    way();
    counted();
    calm();
    chances();
    traysAndImages();
    System.out.println(asked + " answers by order, " + wrong + " not as due");
    if (wrong != 0) {
      System.exit(1);
    }
  }

  private static void barnAndDeeds() {
    TitheHeap x = new TitheHeap();
    due("by: what, the MOON", x.by(19, 3), -2);
    due("by: what, the MOON", x.by(-1, -1), -2);
    due("split: no number, no heap", x.split(5, 5), -11);
    due("split: no number, no heap", x.split(5, 0), -11);
    due("join: no number, no heap", x.join(5, 19), -11);
    due("join: no number, no heap", x.join(0, 5), -11);
    due("judge: what, MISSING", x.judge(MISSING, 4), -2);
    due("judge: the TRAY, what", x.judge(4, 4), -2);
  }

  private static void told() {
    long[] many = new long[19];
    long[][] trays = {many, {19, 1}, {1, 0}, {1, 1}};
    int[] codes = {-4, -3, -3, -5};
    for (int i = 0; i < trays.length; i++) {
      TitheHeap x = with(trays[i]);
      due("soonest", x.soonest(0), codes[i]);
      due("number", x.number(0), codes[i]);
      due("under", x.under(0), codes[i]);
      due("way", x.way(0, 0), codes[i]);
      due("way, i below 0", x.way(0, -1), codes[i]);
      due("way, i beyond", x.way(0, 40), codes[i]);
    }
  }

  private static void way() {
    TitheHeap x = with(1);
    due("way: -3, NONE", x.way(0, -1), -3);
    due("way: -3, NONE", x.way(0, Integer.MIN_VALUE), -3);
    due("way: -2, -3", x.way(4, -1), -2);
    due("way: -6, -3", x.way(MISSING, -1), -6);
    x.numbers(0, 0, 0);
    due("way: -4, -3", x.way(0, -1), -4);
  }

  private static void counted() {
    long[][] trays = {new long[9], {}, {0}, {19, -2}, {2}};
    int[] codes = {-4, -4, -3, -3, 0};
    for (int i = 0; i < trays.length; i++) {
      TitheHeap x = with(trays[i]);
      int below = codes[i] < 0 ? codes[i] : -3;
      due("counted", x.counted(0), codes[i]);
      due("countedBy, i below 0", x.countedBy(0, -1), below);
      due("countedBy, i beyond", x.countedBy(0, 40), codes[i] < 0 ? codes[i] : -1);
      due("spared, i below 0", x.spared(0, -1), below);
      due("spared, i beyond", x.spared(0, 40), codes[i] < 0 ? codes[i] : -7);
      due("countedBy: -2, -3", x.countedBy(-1, -1), -2);
      due("countedBy: -6, -3", x.countedBy(MISSING, -1), -6);
      due("spared: -2, -3", x.spared(4, -1), -2);
      due("spared: -6, -3", x.spared(MISSING, -1), -6);
      due("spared: -6, -7", x.spared(MISSING, 40), -6);
    }
  }

  private static void calm() {
    long[][] trays = {new long[9], {}, {-1}, {19, 1}};
    int[] codes = {-4, -4, -3, -3};
    for (int i = 0; i < trays.length; i++) {
      TitheHeap x = with(trays[i]);
      due("seasons", x.seasons(0), codes[i]);
      due("attempt", x.attempt(0), codes[i]);
    }
    due("attempt: -3, NONE", with(2, 0).attempt(0), -3);
  }

  private static void chances() {
    TitheHeap x = new TitheHeap();
    due("chance: what, k", x.chance(0, 0, 2), -2);
    due("chance: what, n", x.chance(1, 8, -1), -2);
    due("mean: what, n", x.mean(8, 2), -2);
  }

  private static void traysAndImages() {
    TitheHeap x = with(1);
    due("numbers: the TRAY, n", x.numbers(4, 0, 41), -2);
    due("numbers: the sort, n", x.numbers(0, 4, -1), -2);
    due("write: the TRAY, i", x.write(4, 40, 1), -2);
    due("write: MISSING, i", x.write(MISSING, -1, 1), -6);
    due("lists: the TRAY, the number", x.lists(4, -1), -2);
    due("lists: MISSING, the number", x.lists(MISSING, 1), -6);
    due("restore: no such, none made", x.restore(2), -2);
  }
}
