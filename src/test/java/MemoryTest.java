import java.util.ArrayList;
import java.util.List;
import java.util.Set;

/**
 * Rows that are used again must not show what was asked before: each question is asked of a new
 * object, and then, with the same answer due, behind each other question, behind other barns,
 * rows of seasons and images, and behind deeds that were undone.
 */
public final class MemoryTest {
  private static final String[] BARNS = {
    "barn season 2;heap 3;heap 2;heap 1;",
    "barn season 4;heap 5;heap 3;heap 3;heap 1;heap 1;gives:size-place+season-3;may:size>1 or heaps>4;",
    "barn season 0;heap 1;heap 1;heap 1;heap 1;may:place>1 or season=3;",
    "barn season 9;heap 9;heap 9;gives:if heaps<4 then place+2 else season end;",
    "barn season 7;heap 6;heap 2;gives:all-heaps-place;may:not size=season-5;",
  };
  private static final String FULL = "barn season 1;heap 4;heap 4;heap 3;heap 3;heap 2;heap 1;heap 1;gives:size*place+1;";

  private static final Set<String> OF_SEASONS =
      Set.of("gives(0)", "by(0, 0)", "by(2, 0)", "at(5)", "rows(4, 1)", "chance(4, 2, 1)", "mean(3, 0)");

  private interface Question {
    long of(TitheHeap x);
  }

  private static final List<Question> questions = new ArrayList<>();
  private static final List<String> names = new ArrayList<>();

  private static void question(String name, Question question) {
    names.add(name);
    questions.add(question);
  }

  public static void main(String[] args) {
    collect();
    for (String barn : BARNS) {
      long[] due = due(barn);
      behindEachOther(barn, due);
      behindAnotherBarn(barn, due);
      behindDeeds(barn, due);
      behindImages(barn, due);
      behindSeasons(barn);
    }
    Say.end("MemoryTest");
  }

  private static void collect() {
    for (int v = 0; v < 6; v++) {
      int i = v;
      question("all(" + i + ")", x -> x.all(i));
      question("countedBy(1, " + i + ")", x -> x.countedBy(1, i));
      question("spared(1, " + i + ")", x -> x.spared(1, i));
      question("way(0, " + i + ")", x -> x.way(0, i));
      question("forces(" + i + ")", x -> x.forces(i + 1));
      question("best(" + i + ")", x -> x.best(i + 1));
      question("keeps(" + i + ")", x -> x.keeps(i + 1));
      question("gives(" + i + ")", x -> x.gives(i));
      question("by(" + i + ", 0)", x -> x.by(i, 0));
    }
    question("round(0)", x -> x.round(0));
    question("round(1)", x -> x.round(1));
    question("at(5)", x -> x.at(5));
    question("ahead(2)", x -> x.ahead(2));
    question("soonest(0)", x -> x.soonest(0));
    question("soonest(2)", x -> x.soonest(2));
    question("rows(3, 9)", x -> x.rows(3, 9));
    question("rows(4, 1)", x -> x.rows(4, 1));
    question("stands()", x -> x.stands());
    question("number(0)", x -> x.number(0));
    question("bounded(4, 4)", x -> x.bounded(4, 4));
    question("side()", x -> x.side());
    question("under(0)", x -> x.under(0));
    question("below()", x -> x.below());
    question("counted(1)", x -> x.counted(1));
    question("seasons(3)", x -> x.seasons(3));
    question("attempt(3)", x -> x.attempt(3));
    question("takes(0)", x -> x.takes(0));
    question("chance(3, 7, 0)", x -> x.chance(3, 7, 0));
    question("chance(4, 2, 1)", x -> x.chance(4, 2, 1));
    question("mean(3, 0)", x -> x.mean(3, 0));
    question("judge(1, 3)", x -> x.judge(1, 3));
    question("judge(3, 2)", x -> x.judge(3, 2));
  }

  /** Trays that tell the STAND behind three moons, counts and deeds. */
  private static void fillTrays(TitheHeap x) {
    x.moons(3);
    long[] later = new long[x.count(1)];
    for (int i = 0; i < later.length; i++) {
      later[i] = x.heap(later.length - 1 - i);
    }
    x.undo(1);
    Say.fill(x, 0, 0, later);
    Say.fill(x, 1, 1, -1, x.by(0, 1), -1);
    Say.fill(x, 2, 2, x.count(0));
    Say.fill(x, 3, 3, x.by(0, 1));
  }

  private static TitheHeap fresh(String barn) {
    TitheHeap x = Say.told(barn);
    fillTrays(x);
    return x;
  }

  private static long[] due(String barn) {
    long[] due = new long[questions.size()];
    for (int i = 0; i < due.length; i++) {
      due[i] = questions.get(i).of(fresh(barn));
    }
    return due;
  }

  private static void ask(TitheHeap x, int i, long[] due, String behind) {
    Say.due(names.get(i) + " behind " + behind, questions.get(i).of(x), due[i]);
  }

  private static void askAll(TitheHeap x) {
    for (int i = 0; i < questions.size(); i++) {
      questions.get(i).of(x);
    }
  }

  private static void behindEachOther(String barn, long[] due) {
    int n = questions.size();
    for (int stride = 1; stride < n; stride++) {
      TitheHeap x = fresh(barn);
      for (int i = 0; i < n; i++) {
        ask(x, i, due, "many");
        int other = (i + stride) % n;
        ask(x, other, due, names.get(i));
      }
    }
  }

  private static void behindAnotherBarn(String barn, long[] due) {
    String[] others = {FULL, "barn season 3;heap 18;", "barn season 3;", BARNS[1], BARNS[3]};
    for (String other : others) {
      for (int i = 0; i < questions.size(); i++) {
        TitheHeap x = fresh(other);
        askAll(x);
        Say.tell(x, barn);
        fillTrays(x);
        ask(x, i, due, other);
      }
    }
  }

  private static void behindDeeds(String barn, long[] due) {
    for (int i = 0; i < questions.size(); i++) {
      TitheHeap x = fresh(barn);
      x.moons(3);
      questions.get(i).of(x);
      x.season((x.count(3) + 5) % 10);
      askAll(x);
      x.moon(0);
      questions.get(i).of(x);
      x.year(77, 40);
      questions.get(i).of(x);
      x.undo(4);
      ask(x, i, due, "deeds that were undone");
    }
  }

  /** What was worked out in one season must not come back in a later one, however many lie between. */
  private static void behindSeasons(String barn) {
    for (int i = 0; i < questions.size(); i++) {
      if (!OF_SEASONS.contains(names.get(i))) {
        continue;
      }
      for (int first = 0; first < 10; first++) {
        for (int second = first + 1; second <= 2 * first + 4; second++) {
          TitheHeap x = fresh(barn);
          seasons(x, 0, first);
          questions.get(i).of(x);
          seasons(x, first + 1, second);
          TitheHeap twin = fresh(barn);
          seasons(twin, second, second);
          Say.due(names.get(i) + " in the season " + second + " behind " + first, questions.get(i).of(x),
              questions.get(i).of(twin));
        }
      }
    }
  }

  private static void seasons(TitheHeap x, int from, int to) {
    for (int turn = from; turn <= to; turn++) {
      x.season(3 * turn % 10);
    }
  }

  private static void behindImages(String barn, long[] due) {
    for (int i = 0; i < questions.size(); i++) {
      TitheHeap x = fresh(barn);
      x.image(0);
      Say.tell(x, FULL);
      askAll(x);
      x.image(1);
      x.restore(0);
      ask(x, i, due, "another barn, restored");
      x.restore(1);
      questions.get(i).of(x);
      x.restore(0);
      ask(x, i, due, "two images");
    }
  }
}
