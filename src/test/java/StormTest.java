import java.util.Random;

/**
 * Calls with numbers from everywhere, and bytes that are hardly a text: nothing may be thrown, and
 * a refused call may change nothing.
 */
public final class StormTest {
  private static final int[] EDGES = {Integer.MIN_VALUE, Integer.MIN_VALUE + 1, -1000, -2, -1, 0, 1, 2, 3, 4,
      7, 8, 9, 10, 17, 18, 19, 20, 39, 40, 41, 99, 100, 384, 385, 900, 901, 1000, Integer.MAX_VALUE - 1,
      Integer.MAX_VALUE};
  private static final String BITS = "barn season heap gives : may if then else end size place all or and not"
      + " ( ) [ ] = < > + - * ; ; ; 1 2 18 999";
  private static final Random random = new Random(20261118);

  private static int any() {
    int r = random.nextInt(10);
    return r < 5 ? random.nextInt(6) : r < 9 ? EDGES[random.nextInt(EDGES.length)] : random.nextInt();
  }

  private static long anyLong() {
    int r = random.nextInt(4);
    return r == 0 ? random.nextLong() : r == 1 ? 1000000000000000L + any() % 3 : any();
  }

  private static int fourBytes() {
    String[] words = BITS.split(" ");
    if (random.nextInt(9) == 0) {
      return random.nextInt();
    }
    int four = 0;
    String word = (words[random.nextInt(words.length)] + "    ");
    for (int i = 0; i < 4; i++) {
      four = four << 8 | word.charAt(i);
    }
    return four;
  }

  private static long call(TitheHeap x, int which) {
    int a = any();
    int b = any();
    int c = any();
    switch (which) {
      case 0: return x.feed(fourBytes(), fourBytes(), fourBytes(), fourBytes(), fourBytes());
      case 1: return x.barn(a);
      case 2: return x.fault(a);
      case 3: return x.heap(a);
      case 4: return x.gives(a);
      case 5: return x.by(a, b);
      case 6: return x.moon(a);
      case 7: return x.moons(a);
      case 8: return x.split(a, b);
      case 9: return x.join(a, b);
      case 10: return x.season(a);
      case 11: return x.undo(a);
      case 12: return x.judge(a, b);
      case 13: return x.perform(a);
      case 14: return x.year(a, b);
      case 15: return x.at(anyLong());
      case 16: return x.round(a);
      case 17: return x.all(a);
      case 18: return x.ahead(a);
      case 19: return x.soonest(a);
      case 20: return x.way(a, b);
      case 21: return x.rows(a, b);
      case 22: return x.keeps(a);
      case 23: return x.stands();
      case 24: return x.number(a);
      case 25: return x.bounded(a, b);
      case 26: return x.side();
      case 27: return x.under(a);
      case 28: return x.below();
      case 29: return x.counted(a);
      case 30: return x.countedBy(a, b);
      case 31: return x.spared(a, b);
      case 32: return x.seasons(a);
      case 33: return x.attempt(a);
      case 34: return x.forces(a);
      case 35: return x.best(a);
      case 36: return x.takes(a);
      case 37: return x.chance(a, b, c);
      case 38: return x.mean(a, b);
      case 39: return x.numbers(a, b, c);
      case 40: return x.lists(a, b);
      case 41: return x.image(a);
      case 42: return x.restore(a);
      default: return x.count(a);
    }
  }

  private static String seen(TitheHeap x) {
    StringBuilder b = new StringBuilder();
    for (int what = 0; what < 8; what++) {
      b.append(x.count(what)).append(' ');
    }
    for (int place = 0; place < 18; place++) {
      b.append(x.heap(place)).append(' ').append(x.gives(place)).append(' ');
    }
    return b.toString();
  }

  private static void barn(TitheHeap x) {
    String[] laws = {"", "gives:place*size;", "may:place>0;", "gives:season;may:not size=season;"};
    StringBuilder b = new StringBuilder("barn season ").append(random.nextInt(10)).append(';');
    int rest = 1 + random.nextInt(18);
    while (rest > 0) {
      int size = 1 + random.nextInt(rest);
      b.append("heap ").append(size).append(';');
      rest -= size;
    }
    b.append(laws[random.nextInt(laws.length)]);
    int n = b.length();
    while (b.length() % 20 != 0) {
      b.append(' ');
    }
    x.barn(0);
    for (int i = 0; i < b.length(); i += 20) {
      int[] v = new int[5];
      for (int j = 0; j < 20; j++) {
        v[j / 4] = v[j / 4] << 8 | b.charAt(i + j);
      }
      x.feed(v[0], v[1], v[2], v[3], v[4]);
    }
    x.barn(n);
  }

  public static void main(String[] args) {
    int wrong = 0;
    int refused = 0;
    for (int run = 0; run < 600; run++) {
      TitheHeap x = new TitheHeap();
      for (int i = 0; i < 400; i++) {
        if (random.nextInt(60) == 0) {
          barn(x);
        }
        int which = random.nextInt(50);
        if (which >= 44) {
          int tray = random.nextInt(4);
          x.write(tray, random.nextInt(6), anyLong());
          continue;
        }
        String before = seen(x);
        long answer = call(x, which);
        boolean text = which == 1 && answer <= -30;
        if (answer <= -2 && !text) {
          refused++;
          if (!before.equals(seen(x))) {
            wrong++;
            System.out.println("call " + which + " was refused by " + answer + " but changed " + before);
          }
        }
      }
    }
    System.out.println(refused + " calls were refused, " + wrong + " of these changed something");
    if (wrong != 0) {
      System.exit(1);
    }
  }
}
