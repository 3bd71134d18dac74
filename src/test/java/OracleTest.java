import java.math.BigInteger;
import java.util.ArrayDeque;
import java.util.ArrayList;
import java.util.Arrays;
import java.util.Collections;
import java.util.Deque;
import java.util.HashMap;
import java.util.HashSet;
import java.util.List;
import java.util.Map;
import java.util.Random;
import java.util.Set;
import java.util.TreeMap;

/**
 * Runs of chance calls, each answered by TitheHeap and by a slow model that is written from the
 * document in other ways (lists of sizes, trees for laws, plain recursion). The seeds are fixed.
 */
public final class OracleTest {
  private static int wrong = 0;
  private static final Map<String, Integer> calls = new TreeMap<>();

  public static void main(String[] args) {
    int runs = args.length > 0 ? Integer.parseInt(args[0]) : 4000;
    int first = args.length > 1 ? Integer.parseInt(args[1]) : 1;
    for (int seed = first; seed < first + runs && wrong < 20; seed++) {
      new Run(seed).go();
    }
    int total = 0;
    for (int n : calls.values()) {
      total += n;
    }
    System.out.println(total + " calls in " + runs + " runs, " + wrong + " not as the model's");
    if (calls.size() < 45) {
      System.out.println("only " + calls.size() + " methods were called");
      wrong++;
    }
    if (wrong != 0) {
      System.exit(1);
    }
  }

  /** One object beside one model. */
  private static final class Run {
    final int seed;
    final Random random;
    final TitheHeap x = new TitheHeap();
    final Model m = new Model();
    final List<String> told = new ArrayList<>();
    boolean failed = false;
    int made = 0;

    Run(int seed) {
      this.seed = seed;
      this.random = new Random(seed * 7919L);
    }

    void same(String name, String call, long got, long want) {
      calls.merge(name, 1, Integer::sum);
      made++;
      told.add(call + " -> " + want);
      if (got != want) {
        wrong++;
        failed = true;
        System.out.println("seed " + seed + ": " + call + " answered " + got + ", the model " + want);
        for (String line : told) {
          System.out.println("    " + line);
        }
      }
    }

    void go() {
      int most = 60 + random.nextInt(120);
      if (random.nextInt(4) > 0) {
        tellBarn();
      }
      while (made < most && !failed) {
        int r = random.nextInt(100);
        if (r < 6) {
          tellBarn();
        } else if (r < 18) {
          tellTray();
        } else {
          oneCall();
        }
        if (!failed && random.nextInt(3) == 0) {
          lookAround();
        }
      }
    }

    void lookAround() {
      for (int what = -1; what <= 8; what++) {
        same("count", "count(" + what + ")", x.count(what), m.count(what));
      }
      for (int place = -1; place <= 2; place++) {
        int p = place < 2 ? place : random.nextInt(20);
        same("heap", "heap(" + p + ")", x.heap(p), m.heap(p));
      }
    }

    void tellBarn() {
      String text = new Texts(random).text();
      int bytes = text.length();
      int spare = random.nextInt(8) == 0 ? 1 : 0;
      StringBuilder padded = new StringBuilder(text);
      while (padded.length() % 20 != 0 || spare-- > 0) {
        padded.append(random.nextInt(20) == 0 ? '?' : ' ');
      }
      for (int i = 0; i + 20 <= padded.length() && !failed; i += 20) {
        int[] v = new int[5];
        for (int j = 0; j < 20; j++) {
          v[j / 4] = v[j / 4] << 8 | padded.charAt(i + j) & 255;
        }
        same("feed", "feed(" + Arrays.toString(v) + ")", x.feed(v[0], v[1], v[2], v[3], v[4]),
            m.feed(v));
      }
      if (random.nextInt(20) == 0) {
        int n = random.nextBoolean() ? -1 - random.nextInt(3) : 901 + random.nextInt(5);
        same("barn", "barn(" + n + ")", x.barn(n), m.barn(n));
      }
      int n = m.tape.size() > bytes && random.nextInt(12) > 0 ? bytes : m.tape.size();
      same("barn", "barn(" + n + ") " + text.replace("\n", "\\n"), x.barn(n), m.barn(n));
      for (int what = -1; what <= 2; what++) {
        same("fault", "fault(" + what + ")", x.fault(what), m.fault(what));
      }
    }

    void tellTray() {
      int tray = tray();
      int kind = random.nextInt(5);
      int sort = random.nextInt(30) == 0 ? pick(-1, 4) : random.nextInt(4);
      List<Long> v = new ArrayList<>();
      if (kind == 0) {
        List<Integer> stand = new ArrayList<>(m.stands.get(random.nextInt(m.stands.size())));
        Collections.shuffle(stand, random);
        for (int size : stand) {
          v.add((long) size);
        }
        if (random.nextInt(6) == 0) {
          v.set(random.nextInt(v.size()), (long) random.nextInt(21) - 1);
        }
      } else if (kind == 1) {
        List<Integer> s = m.heaps;
        int n = 1 + random.nextInt(9);
        for (int i = 0; i < n; i++) {
          List<Integer> deeds = m.deeds(s);
          s = m.moon(s, m.placeOf(s, deeds.get(random.nextInt(deeds.size()))), m.season);
          v.add(random.nextInt(4) == 0 ? -1L : s.size());
        }
        if (random.nextInt(6) == 0) {
          v.set(random.nextInt(v.size()), (long) random.nextInt(22) - 2);
        }
      } else if (kind == 2) {
        List<Integer> s = m.heaps;
        int season = random.nextInt(10);
        int n = 1 + random.nextInt(random.nextBoolean() ? 2 : 9);
        for (int i = 0; i < n; i++) {
          s = m.moon(s, -1, season);
          v.add((long) s.size());
        }
      } else if (kind == 3) {
        sort = Math.max(sort, 1);
        int n = random.nextInt(12);
        for (int i = 0; i < n; i++) {
          v.add(deed());
        }
      } else {
        int n = random.nextInt(random.nextInt(10) == 0 ? 45 : 12);
        for (int i = 0; i < n; i++) {
          v.add(random.nextInt(4) == 0 ? random.nextLong() : random.nextInt(25) - 3);
        }
      }
      same("numbers", "numbers(" + tray + ", " + sort + ", " + v.size() + ")",
          x.numbers(tray, sort, v.size()), m.numbers(tray, sort, v.size()));
      for (int i = 0; i < v.size() && !failed; i++) {
        long n = v.get(i);
        same("write", "write(" + tray + ", " + i + ", " + n + ")", x.write(tray, i, n),
            m.write(tray, i, n));
      }
      if (!failed) {
        useTray(tray, kind);
      }
    }

    void useTray(int tray, int kind) {
      if (kind == 0) {
        same("number", "number(" + tray + ")", x.number(tray), m.number(tray));
        same("soonest", "soonest(" + tray + ")", x.soonest(tray), m.soonest(tray));
        same("under", "under(" + tray + ")", x.under(tray), m.under(tray));
        for (int i = -1; i < 4; i++) {
          same("way", "way(" + tray + ", " + i + ")", x.way(tray, i), m.way(tray, i));
        }
      } else if (kind == 1) {
        same("counted", "counted(" + tray + ")", x.counted(tray), m.counted(tray));
        for (int i = -1; i < 9; i += 1 + random.nextInt(3)) {
          same("countedBy", "countedBy(" + tray + ", " + i + ")", x.countedBy(tray, i),
              m.countedBy(tray, i));
          same("spared", "spared(" + tray + ", " + i + ")", x.spared(tray, i), m.spared(tray, i));
        }
      } else if (kind == 2) {
        same("seasons", "seasons(" + tray + ")", x.seasons(tray), m.seasons(tray));
        same("attempt", "attempt(" + tray + ")", x.attempt(tray), m.attempt(tray));
      } else if (kind == 3) {
        for (int what = -1; what <= 4; what++) {
          same("judge", "judge(" + tray + ", " + what + ")", x.judge(tray, what),
              m.judge(tray, what));
        }
        same("perform", "perform(" + tray + ")", x.perform(tray), m.perform(tray));
      }
    }

    int tray() {
      return random.nextInt(25) == 0 ? pick(-1, 4) : random.nextInt(4);
    }

    int pick(int a, int b) {
      return random.nextBoolean() ? a : b;
    }

    int size() {
      return random.nextInt(3) > 0 ? m.heaps.get(random.nextInt(m.heaps.size()))
          : random.nextInt(21) - 1;
    }

    int what(int most) {
      return random.nextInt(most + 3) - 1;
    }

    long deed() {
      int r = random.nextInt(12);
      if (r < 4) {
        return random.nextInt(3) == 0 ? 0 : size();
      }
      if (r < 6) {
        return 20 + random.nextInt(10);
      }
      if (r < 8) {
        int size = size();
        return 1000 + 100 * size + (random.nextInt(4) == 0 ? random.nextInt(100)
            : random.nextInt(Math.max(1, size)));
      }
      if (r < 10) {
        return 3000 + 100 * size() + size();
      }
      if (r < 11) {
        return size();
      }
      return random.nextBoolean() ? random.nextInt(6000) - 200 : random.nextLong();
    }

    void oneCall() {
      int a = tray();
      int i = random.nextInt(8) - 1;
      int k = random.nextInt(20);
      int n = random.nextInt(12) - 1;
      switch (random.nextInt(40)) {
        case 0 -> { int p = random.nextInt(8) - 1; same("gives", "gives(" + p + ")", x.gives(p), m.gives(p)); }
        case 1 -> { int d = size(); int w = what(2); same("by", "by(" + d + ", " + w + ")", x.by(d, w), m.by(d, w)); }
        case 2, 3 -> { int d = random.nextInt(3) == 0 ? 0 : size(); same("moon", "moon(" + d + ")", x.moon(d), m.moonCall(d)); }
        case 4 -> { int t = random.nextInt(5) == 0 ? random.nextInt(103) - 1 : random.nextInt(6); same("moons", "moons(" + t + ")", x.moons(t), m.moons(t)); }
        case 5 -> { int s = size(); int l = random.nextInt(Math.max(1, s + 2)) - 1; same("split", "split(" + s + ", " + l + ")", x.split(s, l), m.split(s, l)); }
        case 6 -> { int s = size(); int o = size(); same("join", "join(" + s + ", " + o + ")", x.join(s, o), m.join(s, o)); }
        case 7 -> { int s = random.nextInt(12) - 1; same("season", "season(" + s + ")", x.season(s), m.seasonCall(s)); }
        case 8 -> { int u = random.nextInt(4) == 0 ? random.nextInt(13) - 1 : 1; same("undo", "undo(" + u + ")", x.undo(u), m.undo(u)); }
        case 9 -> { int w = what(3); same("judge", "judge(" + a + ", " + w + ")", x.judge(a, w), m.judge(a, w)); }
        case 10 -> same("perform", "perform(" + a + ")", x.perform(a), m.perform(a));
        case 11 -> { int s = random.nextInt(); int t = random.nextInt(43) - 1; same("year", "year(" + s + ", " + t + ")", x.year(s, t), m.year(s, t)); }
        case 12 -> { long t = when(); same("at", "at(" + t + ")", x.at(t), m.at(t)); }
        case 13 -> { int w = what(1); same("round", "round(" + w + ")", x.round(w), m.round(w)); }
        case 14, 15 -> { int w = what(5); same("all", "all(" + w + ")", x.all(w), m.all(w)); }
        case 16 -> same("ahead", "ahead(" + n + ")", x.ahead(n), m.ahead(n));
        case 17 -> same("soonest", "soonest(" + a + ")", x.soonest(a), m.soonest(a));
        case 18 -> same("way", "way(" + a + ", " + i + ")", x.way(a, i), m.way(a, i));
        case 19 -> same("rows", "rows(" + k + ", " + n + ")", x.rows(k, n), m.rows(k, n));
        case 20 -> same("keeps", "keeps(" + k + ")", x.keeps(k), m.keeps(k));
        case 21 -> same("stands", "stands()", x.stands(), m.standsCall());
        case 22 -> same("number", "number(" + a + ")", x.number(a), m.number(a));
        case 23 -> { int o = random.nextInt(20); same("bounded", "bounded(" + k + ", " + o + ")", x.bounded(k, o), m.bounded(k, o)); }
        case 24 -> same("side", "side()", x.side(), m.side());
        case 25 -> same("under", "under(" + a + ")", x.under(a), m.under(a));
        case 26 -> same("below", "below()", x.below(), m.below());
        case 27 -> same("counted", "counted(" + a + ")", x.counted(a), m.counted(a));
        case 28 -> same("countedBy", "countedBy(" + a + ", " + i + ")", x.countedBy(a, i), m.countedBy(a, i));
        case 29 -> same("spared", "spared(" + a + ", " + i + ")", x.spared(a, i), m.spared(a, i));
        case 30 -> same("seasons", "seasons(" + a + ")", x.seasons(a), m.seasons(a));
        case 31 -> same("attempt", "attempt(" + a + ")", x.attempt(a), m.attempt(a));
        case 32 -> { int f = few(); same("forces", "forces(" + f + ")", x.forces(f), m.forces(f)); same("best", "best(" + f + ")", x.best(f), m.best(f)); }
        case 33 -> { int f = few(); same("best", "best(" + f + ")", x.best(f), m.best(f)); }
        case 34 -> { int w = what(1); same("takes", "takes(" + w + ")", x.takes(w), m.takes(w)); }
        case 35 -> { int f = few(); int t = random.nextInt(10) - 1; int w = what(1); same("chance", "chance(" + f + ", " + t + ", " + w + ")", x.chance(f, t, w), m.chance(f, t, w)); }
        case 36 -> { int t = random.nextInt(10) - 1; int w = what(1); same("mean", "mean(" + t + ", " + w + ")", x.mean(t, w), m.mean(t, w)); }
        case 37 -> { int b = random.nextInt(4) == 0 ? random.nextInt(500) - 2 : random.nextInt(m.stands.size()); same("lists", "lists(" + a + ", " + b + ")", x.lists(a, b), m.lists(a, b)); same("perform", "perform(" + a + ")", x.perform(a), m.perform(a)); }
        case 38 -> { int b = what(1); same("image", "image(" + b + ")", x.image(b), m.image(b)); }
        default -> { int b = what(1); same("restore", "restore(" + b + ")", x.restore(b), m.restore(b)); }
      }
    }

    int few() {
      return random.nextInt(8) == 0 ? random.nextInt(21) - 1 : 1 + random.nextInt(5);
    }

    long when() {
      return switch (random.nextInt(5)) {
        case 0 -> random.nextInt(10) - 2;
        case 1 -> 1000000000000000L + random.nextInt(3) - 1;
        case 2 -> Math.abs(random.nextLong() % 1000000000000000L);
        case 3 -> random.nextLong();
        default -> random.nextInt(1000);
      };
    }
  }

  /** Texts by chance, most of them without a fault. */
  private static final class Texts {
    final Random random;
    int nesting;

    Texts(Random random) {
      this.random = random;
    }

    String text() {
      nesting = random.nextInt(6) == 0 ? 7 : 2 + random.nextInt(3);
      StringBuilder b = new StringBuilder();
      b.append(blank("barn")).append(blank("season")).append(blank("" + random.nextInt(10))).append(";");
      int sum = 1 + random.nextInt(random.nextInt(5) == 0 ? 18 : 11);
      while (sum > 0 && random.nextInt(12) > 0) {
        int size = 1 + random.nextInt(Math.min(sum, 18));
        b.append(blank("heap")).append(random.nextInt(9) == 0 ? "0" + size : "" + size).append(blank(";"));
        sum -= size;
        if (random.nextInt(8) == 0) {
          law(b);
        }
      }
      if (random.nextInt(5) > 0) {
        law(b);
      }
      if (random.nextInt(2) > 0) {
        law(b);
      }
      String text = b.toString();
      if (random.nextInt(4) == 0) {
        text = spoil(text);
      }
      return text.length() > 880 ? text.substring(0, 880) : text;
    }

    void law(StringBuilder b) {
      if (random.nextInt(5) < 3) {
        b.append(blank("gives")).append(blank(":")).append(sum(0)).append(";");
      } else {
        b.append(blank("may")).append(blank(":")).append(truth(0)).append(";");
      }
    }

    String blank(String token) {
      int r = random.nextInt(12);
      return token + (r == 0 ? "\n" : r == 1 ? "  " : " ");
    }

    String sum(int depth) {
      StringBuilder b = new StringBuilder(term(depth));
      while (random.nextInt(3) == 0) {
        b.append(blank(random.nextBoolean() ? "+" : "-")).append(term(depth));
      }
      return b.toString();
    }

    String term(int depth) {
      StringBuilder b = new StringBuilder(atom(depth));
      while (random.nextInt(4) == 0) {
        b.append(blank("*")).append(atom(depth));
      }
      return b.toString();
    }

    String atom(int depth) {
      int r = random.nextInt(depth < nesting ? 14 : 10);
      String[] names = {"size", "place", "heaps", "all", "season"};
      if (r < 6) {
        return blank(names[random.nextInt(names.length)]);
      }
      if (r < 10) {
        return blank("" + (random.nextInt(5) == 0 ? random.nextInt(1000) : random.nextInt(6)));
      }
      if (r < 12) {
        return blank("(") + sum(depth + 1) + blank(")");
      }
      return blank("if") + truth(depth + 1) + blank("then") + sum(depth + 1) + blank("else")
          + sum(depth + 1) + blank("end");
    }

    String truth(int depth) {
      StringBuilder b = new StringBuilder(both(depth));
      while (random.nextInt(4) == 0) {
        b.append(blank("or")).append(both(depth));
      }
      return b.toString();
    }

    String both(int depth) {
      StringBuilder b = new StringBuilder(unit(depth));
      while (random.nextInt(4) == 0) {
        b.append(blank("and")).append(unit(depth));
      }
      return b.toString();
    }

    String unit(int depth) {
      int r = random.nextInt(depth < nesting ? 8 : 5);
      if (r < 5) {
        String[] signs = {"=", "<", ">"};
        return sum(depth) + blank(signs[random.nextInt(3)]) + sum(depth);
      }
      if (r < 6) {
        return blank("not") + unit(depth + 1);
      }
      return blank("[") + truth(depth + 1) + blank("]");
    }

    String spoil(String text) {
      int at = random.nextInt(text.length() + 1);
      String[] bits = {";", ":", "+", "(", ")", "[", "]", "=", "if ", "not ", "heap ", "barn ", "end ",
          "x", "1", "0", "999", "1000", ",", "A", "\t", "\u00e9", " ", "or ", "and ", "heap 9;", "season "};
      switch (random.nextInt(4)) {
        case 0:
          return text.substring(0, at);
        case 1:
          return text.substring(0, at) + bits[random.nextInt(bits.length)] + text.substring(at);
        case 2:
          return at < text.length() ? text.substring(0, at) + text.substring(at + 1) : text;
        default:
          return at < text.length()
              ? text.substring(0, at) + bits[random.nextInt(bits.length)] + text.substring(at + 1) : text;
      }
    }
  }

  private interface Node {
    long worth(long size, long place, long heaps, long all, long season);
  }

  private static final class Fault extends RuntimeException {
    private static final long serialVersionUID = 1L;
    final int kind;
    final int place;

    Fault(int kind, int place) {
      this.kind = kind;
      this.place = place;
    }
  }

  /** Reads a text into trees. */
  private static final class Parser {
    final String text;
    int spot = 0;
    int start = 0;
    String token = "";
    int season;
    final List<Integer> heaps = new ArrayList<>();
    Node gives = null;
    Node may = null;
    int lines = 0;

    Parser(String text) {
      this.text = text;
    }

    static boolean in(char c, char low, char high) {
      return c >= low && c <= high;
    }

    /** The next token: "" at the end, "?" where none begins. */
    void next() {
      while (spot < text.length() && (text.charAt(spot) == '\n' || text.charAt(spot) == ' ')) {
        spot++;
      }
      start = spot;
      if (spot == text.length()) {
        token = "";
        return;
      }
      char c = text.charAt(spot);
      if (in(c, 'a', 'z')) {
        while (spot < text.length() && in(text.charAt(spot), 'a', 'z')) {
          spot++;
        }
      } else if (in(c, '0', '9')) {
        while (spot < text.length() && in(text.charAt(spot), '0', '9')) {
          spot++;
        }
      } else {
        spot++;
      }
      token = text.substring(start, spot);
      if (in(c, '0', '9') ? token.length() > 3 : !in(c, 'a', 'z') && ";:+-*()[]=<>".indexOf(c) < 0) {
        token = "?";
      }
    }

    Fault bad(int kind) {
      return new Fault(token.equals("?") ? 1 : kind, start);
    }

    void must(String wanted) {
      if (!token.equals(wanted)) {
        throw bad(2);
      }
      next();
    }

    boolean isNumber() {
      return !token.isEmpty() && in(token.charAt(0), '0', '9');
    }

    int number(int low, int high) {
      if (!isNumber()) {
        throw bad(2);
      }
      int n = Integer.parseInt(token);
      if (n < low || n > high) {
        throw bad(3);
      }
      next();
      return n;
    }

    void read() {
      next();
      must("barn");
      must("season");
      season = number(0, 9);
      must(";");
      lines = 1;
      int sum = 0;
      while (!token.isEmpty()) {
        if (token.equals("heap")) {
          next();
          int n = number(1, Math.min(18, 18 - sum));
          heaps.add(n);
          sum += n;
        } else if (token.equals("gives")) {
          next();
          must(":");
          gives = sum(6);
        } else if (token.equals("may")) {
          next();
          must(":");
          may = truth(6);
        } else {
          throw bad(2);
        }
        must(";");
        lines++;
      }
      if (heaps.isEmpty()) {
        heaps.add(1);
      }
      heaps.sort(Collections.reverseOrder());
    }

    static long keep(long v) {
      return Math.max(-1000000L, Math.min(1000000L, v));
    }

    void deeper(int left) {
      if (left == 0) {
        throw bad(4);
      }
      next();
    }

    Node sum(int left) {
      Node a = term(left);
      while (token.equals("+") || token.equals("-")) {
        long sign = token.equals("+") ? 1 : -1;
        next();
        Node was = a;
        Node b = term(left);
        a = (s, p, h, l, t) -> keep(was.worth(s, p, h, l, t) + sign * b.worth(s, p, h, l, t));
      }
      return a;
    }

    Node term(int left) {
      Node a = atom(left);
      while (token.equals("*")) {
        next();
        Node was = a;
        Node b = atom(left);
        a = (s, p, h, l, t) -> keep(was.worth(s, p, h, l, t) * b.worth(s, p, h, l, t));
      }
      return a;
    }

    Node atom(int left) {
      if (isNumber()) {
        long n = number(0, 999);
        return (s, p, h, l, t) -> n;
      }
      switch (token) {
        case "size": next(); return (s, p, h, l, t) -> s;
        case "place": next(); return (s, p, h, l, t) -> p;
        case "heaps": next(); return (s, p, h, l, t) -> h;
        case "all": next(); return (s, p, h, l, t) -> l;
        case "season": next(); return (s, p, h, l, t) -> t;
        case "(": {
          deeper(left);
          Node inside = sum(left - 1);
          must(")");
          return inside;
        }
        case "if": {
          deeper(left);
          Node c = truth(left - 1);
          must("then");
          Node a = sum(left - 1);
          must("else");
          Node b = sum(left - 1);
          must("end");
          return (s, p, h, l, t) -> (c.worth(s, p, h, l, t) != 0 ? a : b).worth(s, p, h, l, t);
        }
        default: throw bad(2);
      }
    }

    Node truth(int left) {
      Node a = both(left);
      while (token.equals("or")) {
        next();
        Node was = a;
        Node b = both(left);
        a = (s, p, h, l, t) -> was.worth(s, p, h, l, t) != 0 || b.worth(s, p, h, l, t) != 0 ? 1 : 0;
      }
      return a;
    }

    Node both(int left) {
      Node a = unit(left);
      while (token.equals("and")) {
        next();
        Node was = a;
        Node b = unit(left);
        a = (s, p, h, l, t) -> was.worth(s, p, h, l, t) != 0 && b.worth(s, p, h, l, t) != 0 ? 1 : 0;
      }
      return a;
    }

    Node unit(int left) {
      if (token.equals("not")) {
        deeper(left);
        Node a = unit(left - 1);
        return (s, p, h, l, t) -> a.worth(s, p, h, l, t) != 0 ? 0 : 1;
      }
      if (token.equals("[")) {
        deeper(left);
        Node a = truth(left - 1);
        must("]");
        return a;
      }
      Node a = sum(left);
      String sign = token;
      if (!sign.equals("=") && !sign.equals("<") && !sign.equals(">")) {
        throw bad(2);
      }
      next();
      Node b = sum(left);
      return (s, p, h, l, t) -> {
        int c = Long.compare(a.worth(s, p, h, l, t), b.worth(s, p, h, l, t));
        return (sign.equals("=") ? c == 0 : sign.equals("<") ? c < 0 : c > 0) ? 1 : 0;
      };
    }
  }

  private record Past(List<Integer> heaps, int season, int moons) { }

  private record Image(List<Integer> heaps, int season, int moons, Node gives, Node may, int lines) { }

  private record Step(List<Integer> heaps, int place, int season) { }

  private record Level(int i, List<Integer> heaps) { }

  /** The document, slowly. */
  private static final class Model {
    final List<Byte> tape = new ArrayList<>();
    int faultKind = 0;
    int faultPlace = -1;
    List<Integer> heaps = List.of(1);
    int season = 0;
    int moonCount = 0;
    Node gives = null;
    Node may = null;
    int lines = 0;
    final Deque<Past> past = new ArrayDeque<>();
    final long[][] trays = new long[4][];
    final int[] sorts = new int[4];
    final Image[] images = new Image[2];
    List<List<Integer>> stands = new ArrayList<>();
    final Map<List<Integer>, Integer> numbers = new HashMap<>();
    final Map<Step, List<Integer>> known = new HashMap<>();

    Model() {
      settle();
    }

    // ---- what moons do

    int together() {
      int sum = 0;
      for (int h : heaps) {
        sum += h;
      }
      return sum;
    }

    void settle() {
      past.clear();
      known.clear();
      stands = new ArrayList<>();
      numbers.clear();
      list(new ArrayList<>(), together(), together());
      for (int i = 0; i < stands.size(); i++) {
        numbers.put(stands.get(i), i);
      }
    }

    void list(List<Integer> ahead, int rest, int most) {
      if (rest == 0) {
        stands.add(new ArrayList<>(ahead));
        return;
      }
      for (int size = Math.min(rest, most); size > 0; size--) {
        ahead.add(size);
        list(ahead, rest - size, size);
        ahead.remove(ahead.size() - 1);
      }
    }

    int gift(List<Integer> s, int place, int time) {
      int size = s.get(place);
      int all = together();
      if (may != null && may.worth(size, place, s.size(), all, time) == 0) {
        return 0;
      }
      long g = gives == null ? 1 : gives.worth(size, place, s.size(), all, time);
      return (int) (g < 0 ? 0 : g > size ? size : g);
    }

    List<Integer> moon(List<Integer> s, int sparedPlace, int time) {
      Step step = new Step(s, sparedPlace, time);
      List<Integer> then = known.get(step);
      if (then != null) {
        return then;
      }
      then = new ArrayList<>();
      int given = 0;
      for (int p = 0; p < s.size(); p++) {
        int g = p == sparedPlace ? 0 : gift(s, p, time);
        given += g;
        if (s.get(p) > g) {
          then.add(s.get(p) - g);
        }
      }
      if (given > 0) {
        then.add(given);
      }
      then.sort(Collections.reverseOrder());
      known.put(step, then);
      return then;
    }

    int placeOf(List<Integer> s, int deed) {
      return deed == 0 ? -1 : s.indexOf(deed);
    }

    List<Integer> deeds(List<Integer> s) {
      List<Integer> deeds = new ArrayList<>();
      for (int d = 0; d <= 18; d++) {
        if (d == 0 || s.contains(d)) {
          deeds.add(d);
        }
      }
      return deeds;
    }

    List<Integer> by(List<Integer> s, int deed) {
      return moon(s, placeOf(s, deed), season);
    }

    List<Integer> calm(List<Integer> s) {
      return moon(s, -1, season);
    }

    // ---- the barn

    int feed(int[] v) {
      if (tape.size() + 20 > 900) {
        return -5;
      }
      for (int n : v) {
        for (int shift = 24; shift >= 0; shift -= 8) {
          tape.add((byte) (n >> shift));
        }
      }
      return tape.size();
    }

    int barn(int n) {
      if (n < 0 || n > tape.size()) {
        return -3;
      }
      StringBuilder b = new StringBuilder();
      for (int i = 0; i < n; i++) {
        b.append((char) (tape.get(i) & 255));
      }
      tape.clear();
      Parser parser = new Parser(b.toString());
      try {
        parser.read();
      } catch (Fault f) {
        faultKind = f.kind;
        faultPlace = f.place;
        return -30 - f.kind;
      }
      faultKind = 0;
      faultPlace = -1;
      heaps = parser.heaps;
      season = parser.season;
      gives = parser.gives;
      may = parser.may;
      lines = parser.lines;
      moonCount = 0;
      settle();
      return lines;
    }

    int fault(int what) {
      return what == 0 ? faultKind : what == 1 ? faultPlace : -1;
    }

    int heap(int place) {
      return place < 0 ? -3 : place < heaps.size() ? heaps.get(place) : -1;
    }

    int gives(int place) {
      return place < 0 || place >= heaps.size() ? -2 : gift(heaps, place, season);
    }

    int by(int deed, int what) {
      if (what < 0 || what > 2) {
        return -2;
      }
      if (!deeds(heaps).contains(deed)) {
        return -5;
      }
      List<Integer> then = by(heaps, deed);
      return what == 0 ? numbers.get(then) : what == 1 ? then.size() : then.get(0);
    }

    // ---- deeds

    int why(long deed) {
      if (deed >= 0 && deed <= 18) {
        if (!deeds(heaps).contains((int) deed)) {
          return 2;
        }
        heaps = by(heaps, (int) deed);
        moonCount++;
        return 0;
      }
      if (deed >= 20 && deed <= 29) {
        season = (int) deed - 20;
        return 0;
      }
      if (deed >= 1000 && deed <= 2999) {
        return whySplit((int) (deed - 1000) / 100, (int) (deed % 100));
      }
      if (deed >= 3000 && deed <= 4999) {
        return whyJoin((int) (deed - 3000) / 100, (int) (deed % 100));
      }
      return 1;
    }

    int whySplit(int size, int less) {
      if (size < 1 || size > 18 || less < 1 || less > 18 || less >= size) {
        return 1;
      }
      return swap(List.of(size), List.of(less, size - less));
    }

    int whyJoin(int size, int other) {
      if (size < 1 || size > 18 || other < 1 || other > 18) {
        return 1;
      }
      return swap(List.of(size, other), List.of(size + other));
    }

    int swap(List<Integer> gone, List<Integer> come) {
      List<Integer> then = new ArrayList<>(heaps);
      for (Integer g : gone) {
        if (!then.remove(g)) {
          return 2;
        }
      }
      then.addAll(come);
      then.sort(Collections.reverseOrder());
      heaps = then;
      return 0;
    }

    Past here() {
      return new Past(heaps, season, moonCount);
    }

    void back(Past p) {
      heaps = p.heaps();
      season = p.season();
      moonCount = p.moons();
    }

    void remember(Past p) {
      past.push(p);
      if (past.size() > 10) {
        past.removeLast();
      }
    }

    int single(int why, Past before) {
      if (why != 0) {
        return -10 - why;
      }
      remember(before);
      return heaps.size();
    }

    int moonCall(int deed) {
      Past before = here();
      return single(deed < 0 || deed > 18 ? 1 : why(deed), before);
    }

    int moons(int n) {
      if (n < 1 || n > 99) {
        return -3;
      }
      Past before = here();
      for (int i = 0; i < n; i++) {
        why(0);
      }
      return single(0, before);
    }

    int split(int size, int less) {
      Past before = here();
      return single(whySplit(size, less), before);
    }

    int join(int size, int other) {
      Past before = here();
      return single(whyJoin(size, other), before);
    }

    int seasonCall(int n) {
      if (n < 0 || n > 9) {
        return -11;
      }
      Past before = here();
      season = n;
      remember(before);
      return before.season();
    }

    int undo(int n) {
      if (n < 1 || n > 10 || n > past.size()) {
        return -3;
      }
      for (int i = 0; i < n; i++) {
        back(past.pop());
      }
      return past.size();
    }

    int trayRefusal(int tray) {
      return tray < 0 || tray > 3 ? -2 : trays[tray] == null ? -6 : 0;
    }

    int judge(int tray, int what) {
      if (what < 0 || what > 3) {
        return -2;
      }
      if (trayRefusal(tray) < 0) {
        return trayRefusal(tray);
      }
      Past before = here();
      int place = -1;
      int why = 0;
      for (int i = 0; i < trays[tray].length && why == 0; i++) {
        why = why(trays[tray][i]);
        place = why == 0 ? -1 : i;
      }
      int[] answers = {place, why, heaps.size(), numbers.get(heaps)};
      back(before);
      return answers[what];
    }

    int perform(int tray) {
      if (trayRefusal(tray) < 0) {
        return trayRefusal(tray);
      }
      Past before = here();
      int done = 0;
      while (done < trays[tray].length && why(trays[tray][done]) == 0) {
        done++;
      }
      if (done > 0) {
        remember(before);
      }
      return done;
    }

    int draw;

    int drawn(int modulo) {
      draw = (int) (1103515245L * draw + 12345L);
      return (draw >>> 16) % modulo;
    }

    int year(int seed, int times) {
      if (times < 1 || times > 40) {
        return -3;
      }
      Past before = here();
      draw = seed;
      int done = 0;
      for (int i = 0; i < times; i++) {
        int kind = drawn(6);
        long deed = 0;
        if (kind == 3) {
          deed = drawn(8);
        } else if (kind == 4) {
          deed = 20 + drawn(10);
        } else if (kind == 5) {
          deed = 3000 + drawn(6) * 100;
          deed += drawn(6);
        }
        done += why(deed) == 0 ? 1 : 0;
      }
      if (done > 0) {
        remember(before);
      }
      return done;
    }

    // ---- going

    /** The stands from one on till the first that was there already, which comes last too. */
    List<List<Integer>> path(List<Integer> from) {
      List<List<Integer>> path = new ArrayList<>();
      Set<List<Integer>> seen = new HashSet<>();
      List<Integer> s = from;
      while (seen.add(s)) {
        path.add(s);
        s = calm(s);
      }
      path.add(s);
      return path;
    }

    int tail(List<Integer> from) {
      List<List<Integer>> path = path(from);
      return path.indexOf(path.get(path.size() - 1));
    }

    int period(List<Integer> from) {
      return path(from).size() - 1 - tail(from);
    }

    int at(long n) {
      if (n < 0 || n > 1000000000000000L) {
        return -3;
      }
      List<Integer> s = heaps;
      long steps = n < 2000 ? n : 1000 + (n - 1000) % period(heaps);
      for (long i = 0; i < steps; i++) {
        s = calm(s);
      }
      return numbers.get(s);
    }

    int round(int what) {
      return what == 0 ? tail(heaps) : what == 1 ? period(heaps) : -2;
    }

    Set<Integer> roundOf(List<Integer> from) {
      Set<Integer> round = new HashSet<>();
      List<List<Integer>> path = path(from);
      for (List<Integer> s : path.subList(tail(from), path.size())) {
        round.add(numbers.get(s));
      }
      return round;
    }

    int all(int what) {
      if (what < 0 || what > 5) {
        return -2;
      }
      Set<List<Integer>> made = new HashSet<>();
      Set<Set<Integer>> rounds = new HashSet<>();
      int again = 0;
      int longest = 0;
      int same = 0;
      Set<Integer> here = roundOf(heaps);
      for (List<Integer> s : stands) {
        made.add(calm(s));
        int tail = tail(s);
        again += tail == 0 ? 1 : 0;
        longest = Math.max(longest, tail);
        Set<Integer> round = roundOf(s);
        rounds.add(round);
        same += round.equals(here) ? 1 : 0;
      }
      int[] answers = {stands.size(), stands.size() - made.size(), again, rounds.size(), longest, same};
      return answers[what];
    }

    int ahead(int n) {
      if (n < 0 || n > 9) {
        return -3;
      }
      Set<List<Integer>> to = new HashSet<>();
      to.add(heaps);
      for (int i = 0; i < n; i++) {
        Set<List<Integer>> from = new HashSet<>();
        for (List<Integer> s : stands) {
          if (to.contains(calm(s))) {
            from.add(s);
          }
        }
        to = from;
      }
      return to.size();
    }

    // ---- with some spared

    int toldRefusal(int tray) {
      if (trayRefusal(tray) < 0) {
        return trayRefusal(tray);
      }
      long[] v = trays[tray];
      if (v.length < 1 || v.length > 18) {
        return -4;
      }
      long sum = 0;
      for (long n : v) {
        if (n < 1 || n > 18) {
          return -3;
        }
        sum += n;
      }
      return sum != together() ? -5 : 0;
    }

    List<Integer> told(int tray) {
      List<Integer> s = new ArrayList<>();
      for (long n : trays[tray]) {
        s.add((int) n);
      }
      s.sort(Collections.reverseOrder());
      return s;
    }

    /** Fewest moons to a target from every stand from which it can be. */
    Map<List<Integer>, Integer> fewest(List<Integer> target) {
      Map<List<Integer>, Integer> fewest = new HashMap<>();
      fewest.put(target, 0);
      boolean more = true;
      for (int n = 1; more; n++) {
        Set<List<Integer>> fresh = new HashSet<>();
        for (List<Integer> s : stands) {
          if (!fewest.containsKey(s)) {
            for (int d : deeds(s)) {
              if (fewest.containsKey(by(s, d))) {
                fresh.add(s);
              }
            }
          }
        }
        for (List<Integer> s : fresh) {
          fewest.put(s, n);
        }
        more = !fresh.isEmpty();
      }
      return fewest;
    }

    int soonest(int tray) {
      if (toldRefusal(tray) < 0) {
        return toldRefusal(tray);
      }
      return fewest(told(tray)).getOrDefault(heaps, -1);
    }

    int way(int tray, int i) {
      if (toldRefusal(tray) < 0) {
        return toldRefusal(tray);
      }
      if (i < 0) {
        return -3;
      }
      Map<List<Integer>, Integer> fewest = fewest(told(tray));
      if (fewest.getOrDefault(heaps, -1) <= i) {
        return -1;
      }
      List<Integer> s = heaps;
      for (int j = 0; ; j++) {
        for (int d : deeds(s)) {
          List<Integer> then = by(s, d);
          if (fewest.getOrDefault(then, 9999) == fewest.get(s) - 1) {
            if (j == i) {
              return d;
            }
            s = then;
            break;
          }
        }
      }
    }

    long rows(int k, int n) {
      if (k < 1 || k > 18 || n < 0 || n > 9) {
        return -3;
      }
      return rows(heaps, k, n, new HashMap<>());
    }

    long rows(List<Integer> s, int k, int n, Map<Level, Long> memo) {
      if (n == 0) {
        return s.size() == k ? 1 : 0;
      }
      Long kept = memo.get(new Level(n, s));
      if (kept != null) {
        return kept;
      }
      long found = 0;
      for (int d : deeds(s)) {
        found += rows(by(s, d), k, n - 1, memo);
      }
      memo.put(new Level(n, s), found);
      return found;
    }

    int keeps(int k) {
      if (k < 1 || k > 18) {
        return -3;
      }
      return longest(heaps, k, new HashMap<>(), new HashSet<>());
    }

    /** The most moons from a stand, -1 if one on the way comes again. */
    int longest(List<Integer> s, int k, Map<List<Integer>, Integer> memo, Set<List<Integer>> open) {
      if (open.contains(s)) {
        return -1;
      }
      if (memo.containsKey(s)) {
        return memo.get(s);
      }
      open.add(s);
      int most = 0;
      for (int d : deeds(s)) {
        List<Integer> then = by(s, d);
        if (then.get(0) <= k && most >= 0) {
          int more = longest(then, k, memo, open);
          most = more < 0 ? -1 : Math.max(most, more + 1);
        }
      }
      open.remove(s);
      memo.put(s, most);
      return most;
    }

    int standsCall() {
      Set<List<Integer>> seen = new HashSet<>();
      Deque<List<Integer>> open = new ArrayDeque<>();
      open.push(heaps);
      while (!open.isEmpty()) {
        List<Integer> s = open.pop();
        if (seen.add(s)) {
          for (int d : deeds(s)) {
            open.push(by(s, d));
          }
        }
      }
      return seen.size();
    }

    // ---- among all

    int number(int tray) {
      return toldRefusal(tray) < 0 ? toldRefusal(tray) : numbers.get(told(tray));
    }

    int bounded(int k, int m) {
      if (k < 1 || k > 18 || m < 1 || m > 18) {
        return -3;
      }
      return (int) stands.stream().filter(s -> s.size() <= k && Collections.max(s) <= m).count();
    }

    int side() {
      List<Integer> side = new ArrayList<>();
      for (int i = 1; i <= heaps.get(0); i++) {
        int least = i;
        side.add((int) heaps.stream().filter(h -> h >= least).count());
      }
      return numbers.get(side);
    }

    boolean under(List<Integer> a, List<Integer> b) {
      for (int k = 1; k <= 18; k++) {
        int mine = a.stream().limit(k).mapToInt(h -> h).sum();
        int other = b.stream().limit(k).mapToInt(h -> h).sum();
        if (mine > other) {
          return false;
        }
      }
      return true;
    }

    int under(int tray) {
      return toldRefusal(tray) < 0 ? toldRefusal(tray) : under(heaps, told(tray)) ? 1 : 0;
    }

    int below() {
      return (int) stands.stream().filter(s -> under(s, heaps)).count();
    }

    // ---- counted

    int countsRefusal(int tray, int i, boolean calm) {
      if (trayRefusal(tray) < 0) {
        return trayRefusal(tray);
      }
      long[] v = trays[tray];
      if (v.length < 1 || v.length > 8) {
        return -4;
      }
      for (long n : v) {
        if ((n < 1 || n > 18) && (calm || n != -1)) {
          return -3;
        }
      }
      return i < 0 ? -3 : 0;
    }

    long going(List<Integer> s, int i, long[] v, Map<Level, Long> memo) {
      if (i == v.length) {
        return 1;
      }
      Long kept = memo.get(new Level(i, s));
      if (kept != null) {
        return kept;
      }
      long found = 0;
      for (int d : deeds(s)) {
        List<Integer> then = by(s, d);
        if (v[i] == -1 || then.size() == v[i]) {
          found += going(then, i + 1, v, memo);
        }
      }
      memo.put(new Level(i, s), found);
      return found;
    }

    long counted(int tray) {
      int refusal = countsRefusal(tray, 0, false);
      return refusal < 0 ? refusal : going(heaps, 0, trays[tray], new HashMap<>());
    }

    int countedBy(int tray, int i) {
      int refusal = countsRefusal(tray, i, false);
      if (refusal < 0) {
        return refusal;
      }
      long[] v = trays[tray];
      Map<Level, Long> memo = new HashMap<>();
      if (i >= v.length || going(heaps, 0, v, memo) == 0) {
        return -1;
      }
      List<Integer> s = heaps;
      for (int j = 0; ; j++) {
        for (int d : deeds(s)) {
          List<Integer> then = by(s, d);
          if ((v[j] == -1 || then.size() == v[j]) && going(then, j + 1, v, memo) > 0) {
            if (j == i) {
              return d;
            }
            s = then;
            break;
          }
        }
      }
    }

    int spared(int tray, int i) {
      int refusal = countsRefusal(tray, i, false);
      if (refusal < 0) {
        return refusal;
      }
      long[] v = trays[tray];
      if (i >= v.length) {
        return -7;
      }
      Map<Level, Long> memo = new HashMap<>();
      Set<List<Integer>> from = new HashSet<>();
      from.add(heaps);
      int bits = 0;
      for (int j = 0; j <= i; j++) {
        Set<List<Integer>> to = new HashSet<>();
        bits = 0;
        for (List<Integer> s : from) {
          for (int d : deeds(s)) {
            List<Integer> then = by(s, d);
            if ((v[j] == -1 || then.size() == v[j]) && going(then, j + 1, v, memo) > 0) {
              bits |= 1 << d;
              to.add(then);
            }
          }
        }
        from = to;
      }
      return bits;
    }

    List<Integer> calmEnd(int time, long[] v) {
      List<Integer> s = heaps;
      for (long n : v) {
        s = moon(s, -1, time);
        if (s.size() != n) {
          return null;
        }
      }
      return s;
    }

    int seasons(int tray) {
      int refusal = countsRefusal(tray, 0, true);
      if (refusal < 0) {
        return refusal;
      }
      int bits = 0;
      for (int time = 0; time < 10; time++) {
        bits |= calmEnd(time, trays[tray]) != null ? 1 << time : 0;
      }
      return bits;
    }

    int attempt(int tray) {
      int bits = seasons(tray);
      if (bits <= 0) {
        return bits < 0 ? bits : -1;
      }
      int best = -1;
      int least = 99;
      for (int d = 0; d <= 18; d++) {
        Map<Integer, Integer> alike = new HashMap<>();
        for (int time = 0; time < 10; time++) {
          List<Integer> end = calmEnd(time, trays[tray]);
          if (end != null) {
            boolean can = d == 0 || end.contains(d);
            alike.merge(can ? moon(end, placeOf(end, d), time).size() : 0, 1, Integer::sum);
          }
        }
        int most = Collections.max(alike.values());
        if (most < least) {
          least = most;
          best = d;
        }
      }
      return best;
    }

    // ---- by turns

    /** By how many moons at fewest it is forced, for each stand: [first one's turn, other's]. */
    List<Map<List<Integer>, Integer>> forced(int k) {
      Map<List<Integer>, Integer> mine = new HashMap<>();
      Map<List<Integer>, Integer> other = new HashMap<>();
      for (List<Integer> s : stands) {
        if (s.size() <= k) {
          mine.put(s, 0);
          other.put(s, 0);
        }
      }
      boolean more = true;
      for (int n = 1; more; n++) {
        Set<List<Integer>> freshMine = new HashSet<>();
        Set<List<Integer>> freshOther = new HashSet<>();
        for (List<Integer> s : stands) {
          boolean any = false;
          boolean each = true;
          for (int d : deeds(s)) {
            any |= other.containsKey(by(s, d));
            each &= mine.containsKey(by(s, d));
          }
          if (any && !mine.containsKey(s)) {
            freshMine.add(s);
          }
          if (each && !other.containsKey(s)) {
            freshOther.add(s);
          }
        }
        for (List<Integer> s : freshMine) {
          mine.put(s, n);
        }
        for (List<Integer> s : freshOther) {
          other.put(s, n);
        }
        more = !freshMine.isEmpty() || !freshOther.isEmpty();
      }
      return List.of(mine, other);
    }

    int forces(int k) {
      return k < 1 || k > 18 ? -3 : forced(k).get(0).getOrDefault(heaps, -1);
    }

    int best(int k) {
      int n = forces(k);
      if (n < 1) {
        return n == -3 ? -3 : -1;
      }
      Map<List<Integer>, Integer> other = forced(k).get(1);
      for (int d : deeds(heaps)) {
        if (other.getOrDefault(by(heaps, d), 9999) <= n - 1) {
          return d;
        }
      }
      return -999;
    }

    boolean wins(List<Integer> s, Map<List<Integer>, Boolean> memo) {
      Boolean kept = memo.get(s);
      if (kept == null) {
        kept = winning(s, memo) != null;
        memo.put(s, kept);
      }
      return kept;
    }

    int[] winning(List<Integer> s, Map<List<Integer>, Boolean> memo) {
      for (int place = 0; place < s.size(); place++) {
        for (int n = 1; n <= s.get(place); n++) {
          List<Integer> then = new ArrayList<>(s);
          then.set(place, s.get(place) - n);
          then.removeIf(h -> h == 0);
          then.sort(Collections.reverseOrder());
          if (!wins(then, memo)) {
            return new int[] {place, n};
          }
        }
      }
      return null;
    }

    int takes(int what) {
      if (what < 0 || what > 1) {
        return -2;
      }
      int[] best = winning(heaps, new HashMap<>());
      return best == null ? -1 : best[what];
    }

    // ---- chances

    Map<List<Integer>, BigInteger> byLots(int n) {
      Map<List<Integer>, BigInteger> from = new HashMap<>();
      from.put(heaps, BigInteger.ONE);
      for (int i = 0; i < n; i++) {
        Map<List<Integer>, BigInteger> to = new HashMap<>();
        for (Map.Entry<List<Integer>, BigInteger> e : from.entrySet()) {
          for (int lot = 0; lot < 10; lot++) {
            int place = lot < e.getKey().size() ? lot : -1;
            to.merge(moon(e.getKey(), place, season), e.getValue(), BigInteger::add);
          }
        }
        from = to;
      }
      return from;
    }

    int fraction(BigInteger above, int n, int what) {
      BigInteger below = BigInteger.TEN.pow(n);
      BigInteger divisor = above.gcd(below);
      return (what == 0 ? above : below).divide(divisor).intValueExact();
    }

    int chance(int k, int n, int what) {
      if (what < 0 || what > 1) {
        return -2;
      }
      if (k < 1 || k > 18 || n < 0 || n > 7) {
        return -3;
      }
      BigInteger above = BigInteger.ZERO;
      for (Map.Entry<List<Integer>, BigInteger> e : byLots(n).entrySet()) {
        above = e.getKey().size() <= k ? above.add(e.getValue()) : above;
      }
      return fraction(above, n, what);
    }

    int mean(int n, int what) {
      if (what < 0 || what > 1) {
        return -2;
      }
      if (n < 0 || n > 7) {
        return -3;
      }
      BigInteger above = BigInteger.ZERO;
      for (Map.Entry<List<Integer>, BigInteger> e : byLots(n).entrySet()) {
        above = above.add(e.getValue().multiply(BigInteger.valueOf(e.getKey().get(0))));
      }
      return fraction(above, n, what);
    }

    // ---- trays, images

    int numbers(int tray, int sort, int n) {
      if (tray < 0 || tray > 3 || sort < 0 || sort > 3) {
        return -2;
      }
      if (n < 0 || n > 40) {
        return -3;
      }
      trays[tray] = new long[n];
      sorts[tray] = sort;
      return 0;
    }

    long write(int tray, int i, long v) {
      if (trayRefusal(tray) < 0) {
        return trayRefusal(tray);
      }
      if (i < 0 || i >= trays[tray].length) {
        return -7;
      }
      int unused = 64 - (8 << sorts[tray]);
      trays[tray][i] = v << unused >> unused;
      return trays[tray][i];
    }

    int lists(int tray, int number) {
      if (trayRefusal(tray) < 0) {
        return trayRefusal(tray);
      }
      if (number < 0 || number >= stands.size()) {
        return -3;
      }
      int n = 0;
      for (int size : stands.get(number)) {
        if (n < trays[tray].length) {
          trays[tray][n] = size;
          n++;
        }
      }
      return n;
    }

    int image(int i) {
      if (i < 0 || i > 1) {
        return -2;
      }
      images[i] = new Image(heaps, season, moonCount, gives, may, lines);
      return 0;
    }

    int restore(int i) {
      if (i < 0 || i > 1) {
        return -2;
      }
      Image image = images[i];
      if (image == null) {
        return -5;
      }
      heaps = image.heaps();
      season = image.season();
      moonCount = image.moons();
      gives = image.gives();
      may = image.may();
      lines = image.lines();
      settle();
      return 0;
    }

    int count(int what) {
      int[] answers = {together(), heaps.size(), numbers.get(heaps), season, moonCount, past.size(),
          tape.size(), lines};
      return what < 0 || what >= answers.length ? -1 : answers[what];
    }
  }
}
