import com.sun.management.ThreadMXBean;
import java.lang.management.ManagementFactory;
import java.lang.reflect.Array;
import java.lang.reflect.Field;
import java.lang.reflect.Modifier;
import java.util.ArrayDeque;
import java.util.Collections;
import java.util.Deque;
import java.util.IdentityHashMap;
import java.util.Set;

/** What a run makes: a new object is small, and calls make next to nothing. */
public final class RoomTest {
  private static int wrong = 0;

  private static void must(boolean holds, String what) {
    System.out.println(what);
    if (!holds) {
      wrong++;
      System.out.println("that is too much");
    }
  }

  public static void main(String[] args) throws IllegalAccessException {
    size();
    calls();
    if (wrong != 0) {
      System.exit(1);
    }
  }

  /** Objects, fields and elements of a new object. */
  private static void size() throws IllegalAccessException {
    Set<Object> seen = Collections.newSetFromMap(new IdentityHashMap<>());
    Deque<Object> open = new ArrayDeque<>();
    open.push(new TitheHeap());
    long cells = 0;
    while (!open.isEmpty()) {
      Object o = open.pop();
      if (!seen.add(o)) {
        continue;
      }
      if (o.getClass().isArray()) {
        cells += Array.getLength(o);
        for (int i = 0; o instanceof Object[] && i < Array.getLength(o); i++) {
          push(open, Array.get(o, i));
        }
      } else {
        for (Field field : o.getClass().getDeclaredFields()) {
          if (!Modifier.isStatic(field.getModifiers())) {
            cells++;
            field.setAccessible(true);
            if (!field.getType().isPrimitive()) {
              push(open, field.get(o));
            }
          }
        }
      }
    }
    must(seen.size() <= 100 && cells <= 40000,
        "a new object: " + seen.size() + " objects and arrays, " + cells + " fields and elements");
  }

  private static void push(Deque<Object> open, Object o) {
    if (o != null) {
      open.push(o);
    }
  }

  private static void tell(TitheHeap x, String text) {
    for (int i = 0; i < text.length(); i += 20) {
      int[] v = new int[5];
      for (int j = 0; j < 20; j++) {
        v[j / 4] = v[j / 4] << 8 | (i + j < text.length() ? text.charAt(i + j) : 32);
      }
      x.feed(v[0], v[1], v[2], v[3], v[4]);
    }
    x.barn(text.length());
  }

  /** Bytes that 20 of each call make. */
  private static void calls() {
    ThreadMXBean bean = (ThreadMXBean) ManagementFactory.getThreadMXBean();
    TitheHeap x = new TitheHeap();
    tell(x, "barn season 1;heap 5;heap 4;heap 4;heap 3;heap 1;heap 1;gives:size-place+season;may:size>1;");
    x.numbers(0, 0, 18);
    x.lists(0, 384);
    x.numbers(1, 0, 8);
    for (int i = 0; i < 8; i++) {
      x.write(1, i, -1);
    }
    x.numbers(2, 0, 1);
    x.write(2, 0, 6);
    all(x);
    long before = bean.getThreadAllocatedBytes(Thread.currentThread().getId());
    for (int i = 0; i < 20; i++) {
      all(x);
    }
    long made = bean.getThreadAllocatedBytes(Thread.currentThread().getId()) - before;
    must(made <= 20 * 100, "20 of each call: " + made + " bytes");
  }

  private static void all(TitheHeap x) {
    x.by(0, 0);
    x.moon(0);
    x.moons(3);
    x.split(5, 2);
    x.join(1, 1);
    x.season(3);
    x.undo(2);
    x.judge(0, 0);
    x.perform(0);
    x.year(7, 40);
    x.at(1000000L);
    x.round(0);
    for (int what = 0; what < 6; what++) {
      x.all(what);
    }
    x.ahead(9);
    x.soonest(0);
    x.way(0, 1);
    x.rows(3, 9);
    x.keeps(9);
    x.stands();
    x.number(0);
    x.bounded(9, 9);
    x.side();
    x.under(0);
    x.below();
    x.counted(1);
    x.countedBy(1, 7);
    x.spared(1, 7);
    x.seasons(2);
    x.attempt(2);
    x.forces(2);
    x.best(2);
    x.takes(0);
    x.chance(3, 7, 0);
    x.mean(7, 0);
    x.numbers(3, 3, 40);
    x.lists(3, 200);
    x.image(0);
    x.restore(0);
    x.count(2);
  }
}
