import java.util.ArrayList;
import java.util.LinkedHashMap;
import java.util.List;
import java.util.Map;
import java.util.function.Consumer;
import java.util.function.ToIntFunction;

/**
 * A refused call, and one that only asks, changes nothing: what later calls answer is the same as
 * without it. Two objects are led through the same calls, one of them with the refused call in
 * between, and then all that can be asked of both is compared.
 */
public final class RefusedTests {
  private static final int LOW = Integer.MIN_VALUE;
  private static final int HIGH = Integer.MAX_VALUE;
  private static final int FAR = 16777216;
  private static final int MOST_PAINT = 131072;
  private static final int MOST_LIGHT = 65536;
  private static final int SIZE = 8;
  private static int wrong = 0;
  private static int compared = 0;

  public static void main(String[] args) {
    Map<String, ToIntFunction<PieceCutter>> refused = new LinkedHashMap<>();
    addFocus(refused);
    addPlace(refused);
    addPaint(refused);
    Map<String, ToIntFunction<PieceCutter>> asking = new LinkedHashMap<>();
    addPieces(asking);
    addPixels(asking);
    dueAnswers(refused);
    Map<String, ToIntFunction<PieceCutter>> all = new LinkedHashMap<>(refused);
    all.putAll(asking);
    for (Map.Entry<String, ToIntFunction<PieceCutter>> call : all.entrySet()) {
      compareWays(call.getKey(), call.getValue()::applyAsInt);
    }
    compareWays(
        "all of them, one after the other",
        p -> {
          for (ToIntFunction<PieceCutter> call : all.values()) {
            call.applyAsInt(p);
          }
        });
    System.out.println(
        wrong == 0
            ? "all answers are as due, " + compared + " compared"
            : wrong + " answers are not as due");
    if (wrong != 0 || compared == 0) {
      System.exit(1);
    }
  }

  private static void addFocus(Map<String, ToIntFunction<PieceCutter>> calls) {
    for (int f : new int[] {LOW, -16, -8, 0, 7, 513, 1024, HIGH}) {
      calls.put("focus(" + f + ")", p -> p.focus(f) ? 1 : 0);
    }
  }

  private static void addPlace(Map<String, ToIntFunction<PieceCutter>> calls) {
    for (int k : new int[] {LOW, -3, -1, 3, 4, HIGH}) {
      addPlace(calls, k, 1000, 2000, 50000);
    }
    for (int k = 0; k < 3; k++) {
      for (int far : new int[] {LOW, -FAR - 1, FAR + 1, HIGH}) {
        addPlace(calls, k, far, 2000, 50000);
        addPlace(calls, k, 1000, far, 50000);
        addPlace(calls, k, 1000, 2000, far);
        addPlace(calls, k, far, far, far);
      }
    }
    addPlace(calls, 3, FAR + 1, 0, 0);
  }

  private static void addPlace(
      Map<String, ToIntFunction<PieceCutter>> calls, int k, int x, int y, int z) {
    String name = "place(" + k + ", " + x + ", " + y + ", " + z + ")";
    calls.put(name, p -> p.place(k, x, y, z) ? 1 : 0);
  }

  private static void addPaint(Map<String, ToIntFunction<PieceCutter>> calls) {
    for (int k : new int[] {LOW, -3, -1, 3, 4, HIGH}) {
      addPaint(calls, k, 1000, 2000, 3000);
    }
    for (int k = 0; k < 3; k++) {
      for (int far : new int[] {LOW, -MOST_PAINT - 1, MOST_PAINT + 1, HIGH}) {
        addPaint(calls, k, far, 2000, 3000);
        addPaint(calls, k, 1000, far, 3000);
        addPaint(calls, k, far, far, far);
      }
      for (int far : new int[] {LOW, -1, MOST_LIGHT + 1, HIGH}) {
        addPaint(calls, k, 1000, 2000, far);
      }
    }
    addPaint(calls, -1, MOST_PAINT + 1, 0, 0);
  }

  private static void addPaint(
      Map<String, ToIntFunction<PieceCutter>> calls, int k, int u, int v, int l) {
    String name = "paint(" + k + ", " + u + ", " + v + ", " + l + ")";
    calls.put(name, p -> p.paint(k, u, v, l) ? 1 : 0);
  }

  private static void addPieces(Map<String, ToIntFunction<PieceCutter>> calls) {
    for (int i : new int[] {LOW, -1, 0, 1, 2, 3, HIGH}) {
      calls.put("area(" + i + ")", p -> p.area(i));
      calls.put("piece(" + i + ", 1, 0)", p -> p.piece(i, 1, 0));
      calls.put("first(" + i + ", 1)", p -> p.first(i, 1));
      calls.put("last(" + i + ", 1)", p -> p.last(i, 1));
      calls.put("near(" + i + ", 1, 1)", p -> p.near(i, 1, 1));
      calls.put("number(" + i + ", 1, 1, 0)", p -> p.number(i, 1, 1, 0));
    }
    for (int none : new int[] {LOW, -1, 3, 6, HIGH}) {
      calls.put("piece(0, " + none + ", 0)", p -> p.piece(0, none, 0));
      calls.put("piece(0, 0, " + none + ")", p -> p.piece(0, 0, none));
      calls.put("number(0, 1, 1, " + none + ")", p -> p.number(0, 1, 1, none));
    }
  }

  private static void addPixels(Map<String, ToIntFunction<PieceCutter>> calls) {
    for (int at : new int[] {LOW, -1, 0, SIZE - 1, SIZE, HIGH}) {
      calls.put("first(0, " + at + ")", p -> p.first(0, at));
      calls.put("last(0, " + at + ")", p -> p.last(0, at));
      calls.put("near(0, " + at + ", 1)", p -> p.near(0, at, 1));
      calls.put("near(0, 1, " + at + ")", p -> p.near(0, 1, at));
      calls.put("number(0, " + at + ", 1, 2)", p -> p.number(0, at, 1, 2));
      calls.put("number(0, 1, " + at + ", 2)", p -> p.number(0, 1, at, 2));
      calls.put("covered(" + at + ", 1)", p -> p.covered(at, 1));
      calls.put("covered(1, " + at + ")", p -> p.covered(1, at));
    }
  }

  /** A refused call answers false each time: at first, after corners, after a cut. */
  private static void dueAnswers(Map<String, ToIntFunction<PieceCutter>> refused) {
    for (Map.Entry<String, ToIntFunction<PieceCutter>> call : refused.entrySet()) {
      PieceCutter p = new PieceCutter(SIZE, SIZE);
      due("new: " + call.getKey(), call.getValue().applyAsInt(p), 0);
      placeAndPaint(p);
      due("placed: " + call.getKey(), call.getValue().applyAsInt(p), 0);
      p.cut(true);
      due("cut: " + call.getKey(), call.getValue().applyAsInt(p), 0);
      due("cut: " + call.getKey() + " again", call.getValue().applyAsInt(p), 0);
    }
  }

  private static void due(String call, int got, int want) {
    if (got != want) {
      wrong++;
      System.out.println(call + " answered " + got + ", due is " + want);
    }
  }

  /** Three pieces, each corner with numbers of its own, one corner beyond two sides. */
  private static void placeAndPaint(PieceCutter p) {
    p.focus(16);
    p.place(0, -14000, -14500, 65536);
    p.place(1, 70000, -12000, 70000);
    p.place(2, -13000, 66000, 60000);
    p.paint(0, 40000, -50000, 60000);
    p.paint(1, -30000, 20000, 10000);
    p.paint(2, 11111, 22222, 33333);
  }

  private static void nothing(PieceCutter p) {}

  /** The call between others, at each place where it could leave something behind. */
  private static void compareWays(String name, Consumer<PieceCutter> call) {
    compare(name + ", on a new object", call, RefusedTests::nothing, RefusedTests::nothing);
    compare(name + ", then placed and cut", call, RefusedTests::nothing, RefusedTests::placedAndCut);
    compare(name + ", then focus as it was", call, RefusedTests::nothing, RefusedTests::placedAt32);
    compare(name + ", after corners, then cut", call, RefusedTests::placeAndPaint, p -> p.cut(true));
    compare(name + ", after a cut", call, RefusedTests::placedAndCut, RefusedTests::nothing);
    compare(name + ", between two cuts", call, RefusedTests::placedAndCut, p -> p.cut(true));
    compare(name + ", then a good one", call, RefusedTests::placedAndCut, RefusedTests::someGoodOnes);
  }

  private static void placedAndCut(PieceCutter p) {
    placeAndPaint(p);
    p.cut(true);
  }

  /** The focus is never set here: it is the one at first. */
  private static void placedAt32(PieceCutter p) {
    p.place(0, -7000, -7000, 65536);
    p.place(1, 7000, -7000, 65536);
    p.place(2, -7000, 7000, 65536);
    p.cut(false);
  }

  private static void someGoodOnes(PieceCutter p) {
    p.place(1, 20000, -13000, 80000);
    p.paint(2, 5, 6, 7);
    p.focus(12);
    p.cut(false);
  }

  private static void compare(
      String name,
      Consumer<PieceCutter> call,
      Consumer<PieceCutter> before,
      Consumer<PieceCutter> after) {
    PieceCutter without = new PieceCutter(SIZE, SIZE);
    before.accept(without);
    after.accept(without);
    PieceCutter with = new PieceCutter(SIZE, SIZE);
    before.accept(with);
    call.accept(with);
    after.accept(with);
    List<Integer> want = allAnswers(without);
    List<Integer> got = allAnswers(with);
    compared++;
    if (!got.equals(want)) {
      wrong++;
      System.out.println(name + ": later answers are " + got + ", due are " + want);
    }
  }

  /** Few enough that an object with all the calls before them stays below its 512. */
  private static List<Integer> allAnswers(PieceCutter p) {
    List<Integer> answers = new ArrayList<>();
    for (int i = 0; i < 4; i++) {
      answers.add(p.area(i));
      for (int n = 0; n < 18; n++) {
        answers.add(p.piece(i, n / 6, n % 6));
      }
      for (int y = 0; y < SIZE; y += 2) {
        answers.add(p.first(i, y));
        answers.add(p.last(i, y));
        answers.add(p.near(i, y, y));
        answers.add(p.number(i, y, 1, y / 2));
      }
    }
    for (int n = 0; n < SIZE * SIZE; n += 3) {
      answers.add(p.covered(n % SIZE, n / SIZE));
    }
    answers.add(p.covered(SIZE, 0));
    return answers;
  }
}
