import java.io.IOException;
import java.nio.file.Files;
import java.nio.file.Path;
import java.util.Arrays;
import java.util.Set;
import java.util.TreeSet;
import java.util.regex.Matcher;
import java.util.regex.Pattern;

/**
 * What the tests of boundary cases share: each sentence is quoted from the document, must really
 * stand there, and every answer that is asked for belongs to the sentence quoted last.
 */
final class Say {
  static final int WHAT_IT_IS = -1;
  static final int TERMS = 0;
  static final int PROMISES = 46;
  static final String SIX = "barn season 2;heap 2;heap 1;heap 3;";

  private static final String DOCUMENT = read();
  private static final Set<String> codesAsked = new TreeSet<>();
  private static int promise = TERMS;
  private static String sentence = "";
  private static int sentences = 0;
  private static int asked = 0;
  private static int wrong = 0;

  private Say() {
  }

  private static String read() {
    try {
      return Files.readString(Path.of("../shared/DOC.md"));
    } catch (IOException e) {
      System.out.println("../shared/DOC.md can't be read: " + e);
      return "";
    }
  }

  /** The document's section of a promise, or its terms. */
  static String section(int ofPromise) {
    String head = ofPromise == WHAT_IT_IS ? "## What it is\n"
        : ofPromise == TERMS ? "## Terms\n" : "## Promise " + ofPromise + ":";
    int from = DOCUMENT.indexOf(head);
    if (from < 0) {
      return "";
    }
    int to = DOCUMENT.indexOf("\n## ", from);
    return DOCUMENT.substring(from, to < 0 ? DOCUMENT.length() : to);
  }

  /** From here on answers belong to these words of a promise (or of the terms). */
  static void says(int ofPromise, String words) {
    promise = ofPromise;
    sentence = words;
    sentences++;
    must(section(ofPromise).contains(words), "these words don't stand in the document");
  }

  static void due(String call, long got, long want) {
    asked++;
    if (want < -1) {
      codesAsked.add(promise + ":" + want);
    }
    if (got != want) {
      fail(call + " answered " + got + ", due is " + want);
    }
  }

  static void must(boolean holds, String what) {
    asked++;
    if (!holds) {
      fail(what);
    }
  }

  private static void fail(String what) {
    wrong++;
    System.out.println((promise <= TERMS ? "terms" : "promise " + promise) + ", '" + sentence + "': " + what);
  }

  /** Every code that a promise's section names was asked for under that promise. */
  static void everyCodeWasAsked() {
    for (int p = 1; p <= PROMISES; p++) {
      says(p, "## Promise " + p + ":");
      String text = section(p);
      text += text.contains("s soonest()") ? section(21) : "";
      text += text.contains("s counted()") ? section(31) : "";
      text += text.contains("s seasons()") ? section(34) : "";
      Matcher m = Pattern.compile("-(\\d+)").matcher(text);
      while (m.find()) {
        int code = -Integer.parseInt(m.group(1));
        must(code == -30 || codesAsked.contains(p + ":" + code), "no test asks for the code " + code);
      }
    }
  }

  static void end(String name) {
    System.out.println(name + ": " + sentences + " sentences, " + asked + " answers, " + wrong + " not as due");
    if (wrong != 0) {
      System.exit(1);
    }
  }

  /** Feeds a text, filled up with blanks, and reads it. */
  static int tell(TitheHeap x, String text) {
    feed(x, text);
    return x.barn(text.length());
  }

  static void feed(TitheHeap x, String text) {
    for (int i = 0; i < text.length(); i += 20) {
      int[] v = new int[5];
      for (int j = 0; j < 20; j++) {
        v[j / 4] = v[j / 4] << 8 | (i + j < text.length() ? text.charAt(i + j) & 255 : 32);
      }
      x.feed(v[0], v[1], v[2], v[3], v[4]);
    }
  }

  /** A new object with a text that must be read. */
  static TitheHeap told(String text) {
    TitheHeap x = new TitheHeap();
    int lines = tell(x, text);
    must(lines >= 1, "a text is refused by " + lines + ": " + text);
    return x;
  }

  /** A text of heaps alone, behind it more lines. */
  static String heapsText(int season, String more, int... sizes) {
    StringBuilder text = new StringBuilder("barn season ").append(season).append(';');
    for (int size : sizes) {
      text.append("heap ").append(size).append(';');
    }
    return text.append(more).toString();
  }

  static TitheHeap toldHeaps(String more, int... sizes) {
    return told(heapsText(0, more, sizes));
  }

  static int[] ones(int n) {
    int[] sizes = new int[n];
    Arrays.fill(sizes, 1);
    return sizes;
  }

  static void fill(TitheHeap x, int tray, int sort, long... v) {
    must(x.numbers(tray, sort, v.length) == 0, "numbers(" + tray + ", " + sort + ", " + v.length + ") is refused");
    for (int i = 0; i < v.length; i++) {
      x.write(tray, i, v[i]);
    }
  }

  static void heaps(TitheHeap x, int... sizes) {
    due("count(1)", x.count(1), sizes.length);
    for (int i = 0; i < sizes.length; i++) {
      due("heap(" + i + ")", x.heap(i), sizes[i]);
    }
    due("heap behind the last", x.heap(sizes.length), -1);
  }
}
