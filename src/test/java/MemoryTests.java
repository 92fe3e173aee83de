import com.sun.management.ThreadMXBean;
import java.lang.management.ManagementFactory;
import java.lang.reflect.Array;
import java.lang.reflect.Field;
import java.lang.reflect.Modifier;
import java.util.ArrayDeque;
import java.util.Collections;
import java.util.Deque;
import java.util.IdentityHashMap;
import java.util.Set;

/** All memory is the cutter's own, made once: no call makes or drops what an object holds. */
public final class MemoryTests {
  private static final int MOST_OBJECTS = 20;
  private static final int MOST_FIELDS = 1000;
  private static final int ROUNDS = 20;
  // The smallest object there is has 16 bytes: if one kind of call made one, it would show.
  private static final long BYTES_OF_ONE_EACH_ROUND = 16L * ROUNDS;

  public static void main(String[] args) throws IllegalAccessException {
    PieceCutter one = new PieceCutter(48, 48);
    PieceCutter other = new PieceCutter(48, 48);
    Set<Object> before = held(one);
    useAll(one);
    Set<Object> after = held(one);
    boolean good = due("made once", before.equals(after));
    good &= due("its own", Collections.disjoint(after, held(other)));
    good &= due("few objects", after.size() <= MOST_OBJECTS);
    good &= due("few fields", fieldsAndElements(after) <= MOST_FIELDS);
    long made = bytesMade(other);
    good &= due("no call makes anything (" + made + " bytes)", made < BYTES_OF_ONE_EACH_ROUND);
    System.out.println(
        "an object holds " + after.size() + " objects, " + fieldsAndElements(after) + " numbers");
    System.out.println(good ? "all answers are as due" : "the memory is not as due");
    if (!good) {
      System.exit(1);
    }
  }

  private static boolean due(String what, boolean holds) {
    if (!holds) {
      System.out.println(what + " does not hold");
    }
    return holds;
  }

  private static long bytesMade(PieceCutter p) {
    ThreadMXBean threads = (ThreadMXBean) ManagementFactory.getThreadMXBean();
    threads.getCurrentThreadAllocatedBytes();
    long before = threads.getCurrentThreadAllocatedBytes();
    useAll(p);
    return threads.getCurrentThreadAllocatedBytes() - before;
  }

  /** Every kind of call, with a ring of nine corners among the cuts. */
  private static void useAll(PieceCutter p) {
    for (int n = 0; n < ROUNDS; n++) {
      p.focus(509);
      p.place(0, -387, -3, 4104);
      p.place(1, 1799603, -2170411, -15999220);
      p.place(2, -9443, 11997, 99999);
      p.paint(n % 3, n, n, n);
      p.cut(n % 2 == 0);
      p.piece(0, 0, 0);
      p.area(0);
      p.first(0, n);
      p.last(0, n);
      p.near(3, n, n);
      p.number(3, n, n, 0);
      p.covered(n, n);
      p.focus(7);
      p.place(3, 0, 0, 0);
      p.paint(0, 0, 0, -1);
    }
  }

  private static Set<Object> held(PieceCutter p) throws IllegalAccessException {
    Set<Object> seen = Collections.newSetFromMap(new IdentityHashMap<>());
    Deque<Object> open = new ArrayDeque<>();
    open.add(p);
    while (!open.isEmpty()) {
      Object next = open.remove();
      if (!seen.add(next)) {
        continue;
      }
      if (next instanceof Object[] elements) {
        for (Object element : elements) {
          if (element != null) {
            open.add(element);
          }
        }
      }
      for (Field f : next.getClass().getDeclaredFields()) {
        if (!Modifier.isStatic(f.getModifiers()) && !f.getType().isPrimitive()) {
          f.setAccessible(true);
          Object value = f.get(next);
          if (value != null) {
            open.add(value);
          }
        }
      }
    }
    return seen;
  }

  private static int fieldsAndElements(Set<Object> objects) {
    int sum = 0;
    for (Object o : objects) {
      sum += o.getClass().isArray() ? Array.getLength(o) : o.getClass().getDeclaredFields().length;
    }
    return sum;
  }
}
