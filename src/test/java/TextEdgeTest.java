/** The boundary cases that the document's terms name of a text: its bytes, tokens, numbers, depths, faults. */
public final class TextEdgeTest {
  private static final String HEAD = "barn season 1;";
  private static final String MILLION = "(999+1)*(999+1)";

  public static void main(String[] args) {
    length();
    withoutOne();
    lines();
    seasonBounds();
    sizeBounds();
    together();
    striking();
    tokensGoOn();
    blanks();
    words();
    digits();
    everyByte();
    firstAlongTheText();
    leastKind();
    theEnd();
    barnOnce();
    depthOfOneKind();
    depthOfMixedKinds();
    depthFallsAgain();
    keptNumbers();
    giftBounds();
    nothingLeft();
    nothingGiven();
    Say.end("TextEdgeTest");
  }

  /** A text that is read (kind 0, place NONE), or else the kind and the place of its fault. */
  private static void read(String text, int kind, int place) {
    TitheHeap x = new TitheHeap();
    int answer = Say.tell(x, text);
    if (kind == 0) {
      Say.must(answer >= 1, "refused by " + answer + " at " + x.fault(1) + ": " + text);
    } else {
      Say.due(text, answer, -30 - kind);
    }
    Say.due("fault(0) of " + text, x.fault(0), kind);
    Say.due("fault(1) of " + text, x.fault(1), place);
  }

  private static void good(String text) {
    read(text, 0, -1);
  }

  /** What a law gives of one heap of 18. */
  private static void worth(String sum, int want) {
    Say.due("gives : " + sum, Say.told("barn season 3;heap 18;gives:" + sum + ";").gives(0), want);
  }

  private static void holds(String truth) {
    TitheHeap x = Say.told("barn season 3;heap 18;gives:5;may:" + truth + ";");
    Say.due("may : " + truth, x.gives(0), 5);
    x = Say.told("barn season 3;heap 18;gives:5;may:not [" + truth + "];");
    Say.due("may : not [ " + truth + " ]", x.gives(0), 0);
  }

  private static void length() {
    Say.says(Say.TERMS, "a TEXT of at most 900 bytes");
    String full = HEAD + "heap 18;gives:0" + "+0".repeat(434) + "+7;";
    Say.must(full.length() == 900, "the text has " + full.length() + " bytes");
    Say.due("the law of 900 bytes", Say.told(full).gives(0), 7);
    TitheHeap x = new TitheHeap();
    Say.feed(x, full);
    Say.due("899 of them", x.barn(899), -32);
    Say.due("the end", x.fault(1), 899);
    read(full.substring(0, 899) + ",", 1, 899);
    read(full.substring(0, 899) + "+", 2, 900);
    x = Say.told(HEAD + "may:1=1;".repeat(110));
    Say.due("LINES of 894 bytes", x.count(7), 111);
    x = Say.told(" ".repeat(886) + HEAD);
    Say.due("SEASON behind 886 blanks", x.count(3), 1);
  }

  private static void withoutOne() {
    Say.says(Say.TERMS, "without one: one heap of 1, SEASON 0");
    TitheHeap x = new TitheHeap();
    Say.heaps(x, 1);
    Say.due("SEASON", x.count(3), 0);
    Say.due("gives(0)", x.gives(0), 1);
    Say.tell(x, "barn season 4;heap 2;heap");
    Say.heaps(x, 1);
    Say.due("SEASON behind a text with a FAULT", x.count(3), 0);
  }

  private static void lines() {
    Say.says(Say.TERMS, "barn season N ; { LINE ; }");
    good(HEAD);
    good(HEAD + "heap 1;");
    read("barn season 1", 2, 13);
    read(HEAD + "heap 1", 2, 20);
    read(HEAD + "gives:1", 2, 21);
    read(HEAD + "may:1=1", 2, 21);
    read(HEAD + ";", 2, 14);
    read(HEAD + "heap 1;;", 2, 21);
    read("barn season 1 heap 1;", 2, 14);
    read("barn season 1:heap 1;", 2, 13);
    read(HEAD + "heap:1;", 2, 18);
    read(HEAD + "gives 1;", 2, 20);
    read(HEAD + "may 1=1;", 2, 18);
    read(HEAD + "gives:;", 2, 20);
    read(HEAD + "may:;", 2, 18);
  }

  private static void seasonBounds() {
    Say.says(Say.TERMS, "barn: the SEASON, 0 to 9");
    Say.due("SEASON 0", Say.told("barn season 0;").count(3), 0);
    Say.due("SEASON 9", Say.told("barn season 9;").count(3), 9);
    Say.due("SEASON 009", Say.told("barn season 009;").count(3), 9);
    read("barn season 10;", 3, 12);
    read("barn season 010;", 3, 12);
    read("barn season 999;", 3, 12);
    read("barn season -1;", 2, 12);
  }

  private static void sizeBounds() {
    Say.says(Say.TERMS, "heap: its SIZE, 1 to 18");
    read(HEAD + "heap 0;", 3, 19);
    read(HEAD + "heap 000;", 3, 19);
    Say.heaps(Say.told(HEAD + "heap 1;"), 1);
    Say.heaps(Say.told(HEAD + "heap 18;"), 18);
    Say.heaps(Say.told(HEAD + "heap 018;"), 18);
    read(HEAD + "heap 19;", 3, 19);
    read(HEAD + "heap 999;", 3, 19);
    read(HEAD + "heap -1;", 2, 19);
  }

  private static void together() {
    Say.says(Say.TERMS, "all together are 18 at most; without any there is one of 1");
    Say.heaps(Say.told(HEAD), 1);
    Say.heaps(Say.told(HEAD + "gives:2;may:1=1;"), 1);
    Say.heaps(Say.told(HEAD + "heap 17;heap 1;"), 17, 1);
    Say.heaps(Say.told(HEAD + "heap 9;heap 9;"), 9, 9);
    Say.heaps(Say.told(HEAD + "heap 1;".repeat(18)), Say.ones(18));
    Say.says(Say.TERMS, "3 an N out of its bounds (a SIZE by which all are above 18)");
    read(HEAD + "heap 17;heap 2;", 3, 27);
    read(HEAD + "heap 9;heap 10;", 3, 26);
    read(HEAD + "heap 18;heap 1;", 3, 27);
    read(HEAD + "heap 18;heap 0;", 3, 27);
    read(HEAD + "heap 1;".repeat(19), 3, 14 + 18 * 7 + 5);
    read(HEAD + "heap 1;".repeat(17) + "heap 2;", 3, 14 + 17 * 7 + 5);
  }

  private static void striking() {
    Say.says(Say.TERMS, "Later ones of gives, may strike.");
    Say.due("the later gives", Say.told(HEAD + "heap 9;gives:2;gives:3;").gives(0), 3);
    Say.due("the later may", Say.told(HEAD + "heap 9;may:1=1;may:1=2;").gives(0), 0);
    Say.due("the later may", Say.told(HEAD + "heap 9;may:1=2;may:1=1;").gives(0), 1);
    Say.due("heaps don't strike", Say.told(HEAD + "heap 9;heap 3;").count(0), 12);
  }

  private static void tokensGoOn() {
    Say.says(Say.TERMS, "TOKENS, as long as they go on");
    Say.heaps(Say.told("barn season1;heap18;"), 18);
    good(HEAD + "may:not1=1or1=2and1=3;");
    read("barnseason 1;", 2, 0);
    read("bar n season 1;", 2, 0);
    read(HEAD + "heap 1 8;", 2, 21);
    read(HEAD + "heaps 1;", 2, 14);
    read(HEAD + "hea p 1;", 2, 14);
    read(HEAD + "gives:1size;", 2, 21);
    read(HEAD + "gives:size1;", 2, 24);
    read(HEAD + "gives:sizeplace;", 2, 20);
    read(HEAD + "gives:1 2;", 2, 22);
    read(HEAD + "gives:(1)(2);", 2, 23);
  }

  private static void blanks() {
    Say.says(Say.TERMS, "between them blanks (10, 32)");
    good("\n barn \n season\n1 ;\n\n heap  2\n; \n");
    good("barn\nseason 1;gives\n:\n1 + 2;may : [ 1 = 1 ] ;");
    int[] others = {0, 9, 11, 12, 13, 31, 33, 127, 160, 255};
    for (int other : others) {
      read("barn" + (char) other + "season 1;", 1, 4);
    }
  }

  private static void words() {
    Say.says(Say.TERMS, "words (small letters)");
    read("Barn season 1;", 1, 0);
    read(HEAD + "Heap 1;", 1, 14);
    read(HEAD + "heaP 1;", 2, 14);
    read(HEAD + "heap`1;", 1, 18);
    read(HEAD + "heap{1;", 1, 18);
    read(HEAD + "a 1;", 2, 14);
    read(HEAD + "z 1;", 2, 14);
    read(HEAD + "heapp 1;", 2, 14);
    read(HEAD + "eap 1;", 2, 14);
    read(HEAD + "heapheapheapheapheap 1;", 2, 14);
    String text = "barn season 1;heap 2;gives:if size>place and heaps<all or not season=3 then 1 else 2 end;may:1=1;";
    good(text);
    for (int i = 0; i < text.length(); i++) {
      if (isLetter(text, i)) {
        changed(text, i);
      }
    }
  }

  private static boolean isLetter(String text, int i) {
    return i >= 0 && i < text.length() && text.charAt(i) >= 'a' && text.charAt(i) <= 'z';
  }

  /** A letter of a word is another one, is gone, or comes twice: then the word can't stand there. */
  private static void changed(String text, int i) {
    int begin = i;
    while (isLetter(text, begin - 1)) {
      begin--;
    }
    char other = text.charAt(i) == 'x' ? 'y' : 'x';
    read(text.substring(0, i) + other + text.substring(i + 1), 2, begin);
    read(text.substring(0, i) + text.charAt(i) + text.substring(i), 2, begin);
    read(text.substring(0, i) + text.substring(i + 1), 2, begin);
  }

  private static void digits() {
    Say.says(Say.TERMS, "N (1 to 3 digits)");
    Say.heaps(Say.told(HEAD + "heap 7;"), 7);
    Say.heaps(Say.told(HEAD + "heap 07;"), 7);
    Say.heaps(Say.told(HEAD + "heap 007;"), 7);
    worth("0", 0);
    worth("000", 0);
    worth("999-998", 1);
    worth("999-990", 9);
    good(HEAD + "gives:999;");
    Say.says(Say.TERMS, "1 no TOKEN begins so (4 digits and more: at their first)");
    read(HEAD + "heap 0007;", 1, 19);
    read(HEAD + "heap 00007;", 1, 19);
    read("barn season 0001;", 1, 12);
    read(HEAD + "gives:1000;", 1, 20);
    read(HEAD + "gives:1+9999;", 1, 22);
    read(HEAD + "gives:" + "1".repeat(500) + ";", 1, 20);
    read(HEAD + "gives:1+/2;", 1, 22);
    read(HEAD + "gives:1/2;", 1, 21);
  }

  /** Every byte where a LINE could begin: blanks are fine, tokens can't stand there, others are none. */
  private static void everyByte() {
    Say.says(Say.TERMS, "the signs ; : + - * ( ) [ ] = < >.");
    String begins = ";:+-*()[]=<>0123456789abcdefghijklmnopqrstuvwxyz";
    for (int b = 0; b < 256; b++) {
      if (b == 10 || b == 32) {
        good(HEAD + (char) b);
      } else {
        read(HEAD + (char) b, begins.indexOf((char) b) >= 0 ? 2 : 1, 14);
      }
    }
  }

  private static void firstAlongTheText() {
    Say.says(Say.TERMS, "FAULTS, the first along the text");
    read("barn season 10,", 3, 12);
    read(HEAD + "heap 19;,", 3, 19);
    read(HEAD + "heap ;,", 2, 19);
    read(HEAD + "may:[[[[[[[,", 4, 24);
    read(HEAD + ",heap 19;", 1, 14);
    read(HEAD + "heap 0;heap;1234;[[[[[[[", 3, 19);
    read(HEAD + "heap;heap 0;", 2, 18);
    read(HEAD + "gives:(((((((heap 0;", 4, 26);
  }

  private static void leastKind() {
    Say.says(Say.TERMS, "of one TOKEN the least kind");
    read(HEAD + "1234;", 1, 14);
    read("barn season 1000;", 1, 12);
    read(HEAD + "heap 0000;", 1, 19);
    read(HEAD + "99;", 2, 14);
    read("barn 10;", 2, 5);
    read(HEAD + "gives:(((((([", 2, 26);
    read(HEAD + "gives:((((((not", 2, 26);
    read(HEAD + "gives:((((((1(", 2, 27);
    read(HEAD + "may:[[[[[[1=1[", 2, 27);
    read(HEAD + "may:[[[[[[1=1(", 2, 27);
    read(HEAD + "may:[[[[[[1=1 if", 2, 28);
    read(HEAD + "may:[[[[[[1=1 not", 2, 28);
  }

  /** A good text is cut behind each of its tokens: it lacks something, but behind a ';'. */
  private static void theEnd() {
    Say.says(Say.TERMS, "the end: the text's length");
    String[] tokens = ("barn season 1 ; heap 1 ; gives : if 1 = 1 + 1 then ( 2 ) else size * 2 - 1 end ; "
        + "may : not [ 1 < 2 ] and 1 > 0 or heaps = all ;").split(" ");
    StringBuilder text = new StringBuilder();
    read("", 2, 0);
    read("\n ", 2, 2);
    for (String token : tokens) {
      text.append(token);
      boolean whole = token.equals(";");
      read(text.toString(), whole ? 0 : 2, whole ? -1 : text.length());
      text.append(' ');
      read(text.toString(), whole ? 0 : 2, whole ? -1 : text.length());
    }
  }

  private static void barnOnce() {
    Say.says(Say.TERMS, "barn must be told first, and once");
    read("heap 1;barn season 1;", 2, 0);
    read(";barn season 1;", 2, 0);
    read("season 1;", 2, 0);
    read(HEAD + HEAD, 2, 14);
    read(HEAD + "heap 1;" + HEAD, 2, 21);
    read(HEAD + "season 2;", 2, 14);
  }

  private static void nested(String head, String open, String core, String close) {
    good(HEAD + head + open.repeat(5) + core + close.repeat(5) + ";");
    good(HEAD + head + open.repeat(6) + core + close.repeat(6) + ";");
    int seventh = HEAD.length() + head.length() + 6 * open.length();
    read(HEAD + head + open.repeat(7) + core + close.repeat(7) + ";", 4, seventh);
    read(HEAD + head + open.repeat(20) + core + close.repeat(20) + ";", 4, seventh);
  }

  private static void depthOfOneKind() {
    Say.says(Say.TERMS, "At most six of not [ ( if within one another.");
    nested("gives:", "(", "1", ")");
    nested("may:1=", "(", "1", ")");
    nested("may:", "[", "1=1", "]");
    nested("may:", "not ", "1=1", "");
    nested("gives:", "if 1=1 then ", "1", " else 1 end");
    nested("gives:", "if ", "1", "=1 then 1 else 1 end");
    // what is behind else begins with the seventh if
    String open = "if 1=1 then 1 else ";
    good(HEAD + "gives:" + open.repeat(6) + "1" + " end".repeat(6) + ";");
    read(HEAD + "gives:" + open.repeat(7) + "1" + " end".repeat(7) + ";", 4, 20 + 6 * open.length());
  }

  private static void depthOfMixedKinds() {
    Say.says(Say.TERMS, "4 a seventh of not [ ( if.");
    String[] units = {"not 1=1", "[1=1]", "(1)=1", "if 1=1 then 1 else 1 end=1"};
    String[] opens = {"not ", "[", "if "};
    String[] closes = {"", "]", " then 1 else 1 end=1"};
    for (int i = 0; i < opens.length; i++) {
      for (String unit : units) {
        String five = HEAD + "may:" + opens[i].repeat(5);
        String six = HEAD + "may:" + opens[i].repeat(6);
        good(five + unit + closes[i].repeat(5) + ";");
        read(six + unit + closes[i].repeat(6) + ";", 4, six.length());
      }
    }
    String[] atoms = {"(1)", "if 1=1 then 1 else 1 end"};
    for (String atom : atoms) {
      good(HEAD + "gives:(((((" + atom + ")))));");
      read(HEAD + "gives:((((((" + atom + "))))));", 4, 26);
    }
    good(HEAD + "may:not [if [not (1)=1] then 1 else 1 end=1];");
    read(HEAD + "may:not [if [not ((1))=1] then 1 else 1 end=1];", 4, 32);
  }

  private static void depthFallsAgain() {
    Say.says(Say.TERMS, "within one another");
    String sum = "((((((1))))))";
    String truth = "[[[[[[1=1]]]]]]";
    String nots = "not not not not not not 1=1";
    good(HEAD + "gives:" + sum + "+" + sum + "*" + sum + ";gives:" + sum + ";may:" + sum + "=" + sum + ";");
    good(HEAD + "may:" + truth + " and " + truth + " or " + truth + " or " + nots + " and " + nots + ";");
    good(HEAD + "gives:if (((((1)))))=1 then (((((1))))) else (((((1))))) end+" + sum + ";");
    read(HEAD + "gives:if " + sum + "=1 then 1 else 1 end;", 4, 28);
    read(HEAD + "gives:if 1=1 then " + sum + " else 1 end;", 4, 37);
    read(HEAD + "gives:if 1=1 then 1 else " + sum + " end;", 4, 44);
    good(HEAD + "may:not not not not not [1=1] and not not not not not [1=1];");
  }

  private static void keptNumbers() {
    Say.says(Say.TERMS, "Each + - * is kept from -1,000,000 to 1,000,000");
    String low = "(0-" + MILLION + ")";
    holds(MILLION + "-1+1=" + MILLION);
    holds(MILLION + "-1<" + MILLION);
    holds(MILLION + "+1=" + MILLION);
    holds(MILLION + "-(0-1)=" + MILLION);
    holds(MILLION + "+1-1<" + MILLION);
    holds(MILLION + "-1+2=" + MILLION);
    holds(low + "+1-1=" + low);
    holds(low + "+1>" + low);
    holds(low + "-1=" + low);
    holds(low + "+(0-1)=" + low);
    holds(low + "-1+1>" + low);
    holds("999*(999+2)<" + MILLION);
    holds("999*(999+2)+1=" + MILLION);
    holds("(999+2)*(999+1)=" + MILLION);
    holds("999*(0-999-2)>" + low);
    holds("999*(0-999-2)-1=" + low);
    holds("(999+2)*(0-999-1)=" + low);
    holds(MILLION + "*(" + MILLION + ")=" + MILLION);
    holds(low + "*" + low + "=" + MILLION);
    holds(low + "*(" + MILLION + ")=" + low);
    holds(low + "+" + low + "=" + low);
    holds(low + "-(" + MILLION + ")=" + low);
    holds(MILLION + "+" + MILLION + "-" + MILLION + "=0");
  }

  private static void giftBounds() {
    Say.says(Say.TERMS, "gives as much as the law gives tells, 0 at least, its SIZE at most (without one: 1)");
    worth("0-1", 0);
    worth("0", 0);
    worth("1", 1);
    worth("size-1", 17);
    worth("size", 18);
    worth("size+1", 18);
    worth(MILLION, 18);
    worth("0-" + MILLION, 0);
    Say.due("without one", Say.told(HEAD + "heap 18;").gives(0), 1);
    TitheHeap x = Say.told(HEAD + "heap 2;heap 1;gives:2;");
    Say.due("a heap of 2", x.gives(0), 2);
    Say.due("a heap of 1", x.gives(1), 1);
    Say.says(Say.TERMS, "if the law may holds for it (without one: each)");
    x = Say.told(HEAD + "heap 2;heap 1;may:place=1;");
    Say.due("it doesn't hold", x.gives(0), 0);
    Say.due("it holds", x.gives(1), 1);
    x = Say.told(HEAD + "heap 2;heap 1;");
    Say.due("without one", x.gives(0) + x.gives(1), 2);
  }

  private static void nothingLeft() {
    Say.says(Say.TERMS, "a heap of which nothing is left is gone");
    TitheHeap x = Say.told(HEAD + "heap 5;heap 2;heap 1;");
    x.moon(0);
    Say.heaps(x, 4, 3, 1);
    x = Say.told(HEAD + "heap 5;heap 2;heap 1;gives:2;");
    x.moon(0);
    Say.heaps(x, 5, 3);
    x = Say.told(HEAD + "heap 1;".repeat(18));
    x.moon(0);
    Say.heaps(x, 18);
    x.undo(1);
    x.moon(1);
    Say.heaps(x, 17, 1);
  }

  private static void nothingGiven() {
    Say.says(Say.TERMS, "what all gave together is one heap more, if it is above 0");
    TitheHeap x = Say.told(HEAD + "heap 3;heap 1;gives:0;");
    x.moon(0);
    Say.heaps(x, 3, 1);
    x = Say.told(HEAD + "heap 3;heap 1;may:place=0;");
    x.moon(0);
    Say.heaps(x, 2, 1, 1);
    x = Say.told(HEAD + "heap 3;may:1=1;");
    x.moon(3);
    Say.heaps(x, 3);
    x = Say.told(HEAD + "heap 1;".repeat(18) + "gives:0;");
    x.moon(0);
    Say.heaps(x, Say.ones(18));
  }
}
