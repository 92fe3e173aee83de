import java.math.BigInteger;
import java.util.ArrayList;
import java.util.List;

/**
 * Many made-up runs against a second writing of the document's terms, in whole numbers without
 * bounds: a long that overflows in the class shows up as a wrong answer. Each object answers all
 * the 512 calls that the document lets it be used for, refused ones among them, and no more.
 */
public final class ModelTests {
  private static final int RUNS = 6000;
  private static final int CALLS = 512;
  private static long seed = 20261115;
  private static int wrong = 0;
  private static int mostPieces = 0;
  private static int mostCovered = 0;
  private static int refused = 0;
  private static int hits = 0;

  private record Corner(BigInteger[] n) {}

  private record Piece(Corner[] c, BigInteger area) {}

  private static final class Model {
    private final int w;
    private final int h;
    private int f = 32;
    private final long[][] given = new long[3][6];
    private List<Piece> pieces = new ArrayList<>();

    Model(int w, int h) {
      this.w = Math.min(48, Math.max(8, w));
      this.h = Math.min(48, Math.max(8, h));
    }

    boolean focus(int asked) {
      boolean good = asked >= 8 && asked <= 512;
      f = good ? asked : f;
      return good;
    }

    boolean place(int k, int x, int y, int z) {
      return set(k, 0, new long[] {x, y, z}, new long[] {-16777216, 16777216, -16777216, 16777216});
    }

    boolean paint(int k, int u, int v, int l) {
      return set(k, 3, new long[] {u, v, l}, new long[] {-131072, 131072, 0, 65536});
    }

    /** The bounds of the first two numbers, then those of the third. */
    private boolean set(int k, int from, long[] n, long[] bounds) {
      boolean good = k == 0 || k == 1 || k == 2;
      for (int j = 0; j < 3; j++) {
        int b = j < 2 ? 0 : 2;
        good &= n[j] >= bounds[b] && n[j] <= bounds[b + 1];
      }
      if (good) {
        System.arraycopy(n, 0, given[k], from, 3);
      }
      return good;
    }

    int cut(boolean both) {
      List<Corner> ring = new ArrayList<>();
      for (long[] g : given) {
        BigInteger[] n = new BigInteger[6];
        for (int j = 0; j < 6; j++) {
          n[j] = big(g[j]);
        }
        ring.add(new Corner(n));
      }
      long[][] sides = {{0, 0, 1, -4096}, {f, 0, w, 0}, {-f, 0, w, 0}, {0, f, h, 0}, {0, -f, h, 0}};
      for (long[] side : sides) {
        ring = cutBy(ring, side);
      }
      pieces = divide(ring, both);
      return pieces.size();
    }

    private List<Piece> divide(List<Corner> ring, boolean both) {
      List<Corner> shown = new ArrayList<>();
      for (Corner c : ring) {
        BigInteger[] n = c.n().clone();
        BigInteger z = n[2];
        n[0] = floor(n[0].multiply(big(16L * f)), z).add(big(8L * w));
        n[1] = floor(n[1].multiply(big(16L * f)), z).add(big(8L * h));
        n[2] = floor(BigInteger.ONE.shiftLeft(32), z);
        shown.add(new Corner(n));
      }
      List<Piece> result = new ArrayList<>();
      for (int k = 1; k < shown.size() - 1; k++) {
        Corner a = shown.get(0);
        Corner b = shown.get(k);
        Corner c = shown.get(k + 1);
        BigInteger area = edge(a, b, c.n()[0], c.n()[1]);
        if (area.signum() > 0) {
          result.add(new Piece(new Corner[] {a, b, c}, area));
        } else if (area.signum() < 0 && both) {
          result.add(new Piece(new Corner[] {a, c, b}, area.negate()));
        }
      }
      return result;
    }

    boolean has(int i) {
      return i >= 0 && i < pieces.size();
    }

    /** The column (0) or row (1) between the piece's corners, so many parts of each. */
    int between(int i, int which, int[] parts) {
      long sum = 0;
      for (int c = 0; c < 3; c++) {
        sum += parts[c] * pieces.get(i).c()[c].n()[which].longValueExact();
      }
      return (int) Math.floorDiv(sum, 16L * (parts[0] + parts[1] + parts[2]));
    }

    /** The three E of a pixel, or null if the piece does not cover it or there is none such. */
    BigInteger[] weights(int i, int x, int y) {
      if (!has(i) || x < 0 || x >= w || y < 0 || y >= h) {
        return null;
      }
      Corner[] c = pieces.get(i).c();
      int[][] edges = {{1, 2}, {2, 0}, {0, 1}};
      BigInteger[] result = new BigInteger[3];
      for (int e = 0; e < 3; e++) {
        Corner a = c[edges[e][0]];
        Corner b = c[edges[e][1]];
        result[e] = edge(a, b, big(16L * x + 8), big(16L * y + 8));
        int up = b.n()[1].compareTo(a.n()[1]);
        int right = b.n()[0].compareTo(a.n()[0]);
        boolean tie = up < 0 || (up == 0 && right > 0);
        if (result[e].signum() < 0 || (result[e].signum() == 0 && !tie)) {
          return null;
        }
      }
      return result;
    }

    BigInteger sum(int i, BigInteger[] e, int what) {
      BigInteger sum = BigInteger.ZERO;
      for (int c = 0; c < 3; c++) {
        BigInteger[] n = pieces.get(i).c()[c].n();
        sum = sum.add(e[c].multiply(n[2]).multiply(what < 0 ? BigInteger.ONE : n[3 + what]));
      }
      return sum;
    }

    int near(int i, int x, int y) {
      BigInteger[] e = weights(i, x, y);
      return e == null ? -1 : floor(sum(i, e, -1), pieces.get(i).area()).intValueExact();
    }

    int number(int i, int x, int y, int what) {
      BigInteger[] e = weights(i, x, y);
      return e == null || what < 0 || what > 2
          ? 0
          : floor(sum(i, e, what), sum(i, e, -1)).intValueExact();
    }

    int firstOrLast(int i, int y, boolean first) {
      int found = -1;
      for (int x = 0; x < w; x++) {
        if (weights(i, x, y) != null && (found < 0 || !first)) {
          found = x;
        }
      }
      return found;
    }

    int covered(int x, int y) {
      if (x < 0 || x >= w || y < 0 || y >= h) {
        return -1;
      }
      int count = 0;
      for (int i = 0; i < pieces.size(); i++) {
        count += weights(i, x, y) != null ? 1 : 0;
      }
      return count;
    }
  }

  private static BigInteger big(long n) {
    return BigInteger.valueOf(n);
  }

  private static BigInteger floor(BigInteger a, BigInteger b) {
    BigInteger[] parts = a.divideAndRemainder(b);
    boolean down = parts[1].signum() != 0 && parts[1].signum() != b.signum();
    return down ? parts[0].subtract(BigInteger.ONE) : parts[0];
  }

  private static BigInteger edge(Corner a, Corner b, BigInteger x, BigInteger y) {
    BigInteger one = b.n()[0].subtract(a.n()[0]).multiply(y.subtract(a.n()[1]));
    BigInteger other = b.n()[1].subtract(a.n()[1]).multiply(x.subtract(a.n()[0]));
    return one.subtract(other);
  }

  private static BigInteger side(Corner c, long[] side) {
    BigInteger sum = big(side[3]);
    for (int j = 0; j < 3; j++) {
      sum = sum.add(c.n()[j].multiply(big(side[j])));
    }
    return sum;
  }

  private static List<Corner> cutBy(List<Corner> ring, long[] side) {
    List<Corner> result = new ArrayList<>();
    for (int i = 0; i < ring.size(); i++) {
      Corner here = ring.get(i);
      Corner next = ring.get((i + 1) % ring.size());
      boolean hereStays = side(here, side).signum() >= 0;
      boolean nextStays = side(next, side).signum() >= 0;
      if (hereStays) {
        result.add(here);
      }
      if (hereStays != nextStays) {
        result.add(hereStays ? between(here, next, side) : between(next, here, side));
      }
    }
    return result;
  }

  private static Corner between(Corner p, Corner q, long[] side) {
    BigInteger a = side(p, side);
    BigInteger b = side(q, side);
    BigInteger[] n = new BigInteger[6];
    for (int j = 0; j < 6; j++) {
      n[j] = p.n()[j].add(floor(q.n()[j].subtract(p.n()[j]).multiply(a), a.subtract(b)));
    }
    return new Corner(n);
  }

  /** The same numbers in every run of the tests. */
  private static int upTo(int bound) {
    seed = seed * 6364136223846793005L + 1442695040888963407L;
    return (int) ((seed >>> 33) % bound);
  }

  private static int within(int bound) {
    return upTo(2 * bound + 1) - bound;
  }

  private static int near(long middle, int reach) {
    long signed = upTo(4) == 0 ? -middle : middle;
    return (int) Math.max(-16777216, Math.min(16777216, signed + within(reach)));
  }

  private static void due(String call, long got, long want) {
    if (got != want) {
      wrong++;
      if (wrong <= 20) {
        System.out.println(call + " answered " + got + ", due is " + want);
      }
    }
  }

  /** One object and its model: each call is asked of both, and counted. */
  private static final class Run {
    private final String name;
    private final PieceCutter p;
    private final Model m;
    private int calls = 0;

    Run(String name, int w, int h) {
      this.name = name;
      p = new PieceCutter(w, h);
      m = new Model(w, h);
    }

    int left() {
      return CALLS - calls;
    }

    private void check(String call, long got, long want) {
      calls++;
      if (calls > CALLS) {
        throw new IllegalStateException("the test asks too much of one object");
      }
      due(name + ": call " + calls + ": " + call, got, want);
    }

    private void check(String call, boolean got, boolean want) {
      refused += want ? 0 : 1;
      check(call, got ? 1 : 0, want ? 1 : 0);
    }

    void focus(int f) {
      check("focus(" + f + ")", p.focus(f), m.focus(f));
    }

    void place(int k, int x, int y, int z) {
      String call = "place(" + k + ", " + x + ", " + y + ", " + z + ")";
      check(call, p.place(k, x, y, z), m.place(k, x, y, z));
    }

    void paint(int k, int u, int v, int l) {
      String call = "paint(" + k + ", " + u + ", " + v + ", " + l + ")";
      check(call, p.paint(k, u, v, l), m.paint(k, u, v, l));
    }

    void cut(boolean both) {
      check("cut(" + both + ")", p.cut(both), m.cut(both));
      mostPieces = Math.max(mostPieces, m.pieces.size());
    }

    /** A call that tells something, of a piece that there is or one beside them. */
    void ask() {
      int count = m.pieces.size();
      int i = count > 0 && upTo(8) > 0 ? upTo(count) : beside(count);
      int kind = upTo(8);
      if (kind == 0) {
        BigInteger want = m.has(i) ? m.pieces.get(i).area() : big(-1);
        check("area(" + i + ")", p.area(i), want.longValueExact());
      } else if (kind < 3) {
        askPiece(i, upTo(8) > 0 ? upTo(3) : beside(3), upTo(8) > 0 ? upTo(6) : beside(6));
      } else if (kind == 3) {
        int y = upTo(8) > 0 ? upTo(m.h) : beside(m.h);
        check("first(" + i + ", " + y + ")", p.first(i, y), m.firstOrLast(i, y, true));
      } else if (kind == 4) {
        int y = upTo(8) > 0 ? upTo(m.h) : beside(m.h);
        check("last(" + i + ", " + y + ")", p.last(i, y), m.firstOrLast(i, y, false));
      } else {
        askPixel(i, kind);
      }
    }

    private void askPiece(int i, int c, int what) {
      boolean there = m.has(i) && c >= 0 && c < 3 && what >= 0 && what < 6;
      long want = there ? m.pieces.get(i).c()[c].n()[what].intValueExact() : 0;
      check("piece(" + i + ", " + c + ", " + what + ")", p.piece(i, c, what), want);
    }

    /** Mostly a pixel where the piece is: somewhere between its three corners. */
    private void askPixel(int i, int kind) {
      int x = upTo(8) > 0 ? upTo(m.w) : beside(m.w);
      int y = upTo(8) > 0 ? upTo(m.h) : beside(m.h);
      if (m.has(i) && upTo(4) > 0) {
        int[] parts = {upTo(10), upTo(10), 1 + upTo(10)};
        x = m.between(i, 0, parts);
        y = m.between(i, 1, parts);
      }
      String at = x + ", " + y;
      if (kind == 5) {
        int want = m.near(i, x, y);
        hits += want >= 0 ? 1 : 0;
        check("near(" + i + ", " + at + ")", p.near(i, x, y), want);
      } else if (kind == 6) {
        int what = upTo(8) > 0 ? upTo(3) : beside(3);
        String call = "number(" + i + ", " + at + ", " + what + ")";
        check(call, p.number(i, x, y, what), m.number(i, x, y, what));
      } else {
        int want = m.covered(x, y);
        mostCovered = Math.max(mostCovered, want);
        check("covered(" + at + ")", p.covered(x, y), want);
      }
    }

    /** A focus, place or paint that the document refuses, for one number that is just too far. */
    void askWhatIsRefused() {
      int k = upTo(3);
      int sign = upTo(2) == 0 ? -1 : 1;
      int far = sign * (upTo(2) == 0 ? 16777217 : Integer.MAX_VALUE);
      switch (upTo(9)) {
        case 0:
          focus(upTo(2) == 0 ? 7 - upTo(50) : 513 + upTo(50));
          break;
        case 1:
          place(beside(3), within(5000), within(5000), 5000);
          break;
        case 2:
          place(k, far, within(5000), 5000);
          break;
        case 3:
          place(k, within(5000), far, 5000);
          break;
        case 4:
          place(k, within(5000), within(5000), far);
          break;
        case 5:
          paint(beside(3), within(5000), within(5000), upTo(5000));
          break;
        case 6:
          paint(k, upTo(2) == 0 ? sign * 131073 : far, within(5000), upTo(5000));
          break;
        case 7:
          paint(k, within(5000), upTo(2) == 0 ? sign * 131073 : far, upTo(5000));
          break;
        default:
          paint(k, within(5000), within(5000), upTo(2) == 0 ? -1 : 65537);
          break;
      }
    }
  }

  /** Just outside 0 .. count - 1, or far from it. */
  private static int beside(int count) {
    int[] some = {-1, count, count + 1, Integer.MIN_VALUE, Integer.MAX_VALUE, -1 - upTo(60)};
    return some[upTo(some.length)];
  }

  /**
   * Kinds of corners: anywhere; before the eye and about the window; close to the near side; some
   * of them behind it; at the bounds; thin slivers along a corner of the window, where rounding
   * makes rings that are not convex.
   */
  private static void placeOne(Run run, int k, int kind) {
    int f = run.m.f;
    int z = within(16777216);
    int x = within(16777216);
    int y = within(16777216);
    if (kind > 0) {
      z = kind == 1 ? 4096 + upTo(1 << (4 + upTo(20))) : 4096 + within(1 << upTo(13));
      z = Math.min(z, 16777216);
      long reach = 2L * z * 48 / f + 2;
      x = within((int) Math.min(reach, 16777216));
      y = within((int) Math.min(reach, 16777216));
    }
    if (kind == 3 && upTo(2) == 0) {
      z = -upTo(16777216);
      x = within(1 << (10 + upTo(15)));
      y = within(1 << (10 + upTo(15)));
    }
    if (kind == 4) {
      x = upTo(2) == 0 ? 16777216 : -16777216;
      y = upTo(2) == 0 ? 16777216 : -16777216;
      z = upTo(3) == 0 ? -16777216 : 16777216;
    }
    if (kind == 5) {
      z = upTo(3) == 0 ? within(16777216) : 4096 + within(1 << (2 + upTo(16)));
      x = near((long) z * run.m.w / f, 1 << upTo(8));
      y = near((long) z * run.m.h / f, 1 << upTo(8));
    }
    run.place(k, x, y, z);
  }

  private static void paintOne(Run run, int k) {
    int u = within(131072);
    if (upTo(3) == 0) {
      int most = upTo(2) == 0 ? 131072 : -131072;
      run.paint(k, most, -most, 65536);
    } else {
      run.paint(k, u, within(131072), upTo(65537));
    }
  }

  /** At times a corner keeps what it had before, all 0 in the first round. */
  private static void round(Run run, int kind) {
    if (upTo(3) > 0) {
      run.focus(upTo(3) == 0 ? 512 : 8 + upTo(505));
    }
    for (int k = 0; k < 3; k++) {
      if (upTo(8) > 0) {
        placeOne(run, k, kind);
      }
      if (upTo(8) > 0) {
        paintOne(run, k);
      }
    }
    for (int n = upTo(4); n > 0; n--) {
      run.askWhatIsRefused();
    }
    run.cut(upTo(2) == 0);
    for (int n = upTo(100); n > 0; n--) {
      run.ask();
    }
    // The pieces stay as they are till the next cut, whatever else is called.
    run.askWhatIsRefused();
    placeOne(run, upTo(3), kind);
    run.focus(6 + upTo(509));
    for (int n = upTo(10); n > 0; n--) {
      run.ask();
    }
  }

  private static void madeUp(int number) {
    int w = upTo(3) == 0 ? 48 : 6 + upTo(45);
    int h = upTo(3) == 0 ? w : 6 + upTo(45);
    Run run = new Run("run " + number, w, h);
    while (run.left() > 150) {
      round(run, number % 6);
    }
    while (run.left() > 0) {
      run.ask();
    }
  }

  /** Width, height, focus and three places that leave nine corners, or ten, not convex. */
  private static final int[][] NOT_CONVEX = {
    {48, 48, 509, -387, 0, 4104, 1800000, -2170306, -16000000, -9440, 12000, 100000},
    {48, 41, 511, -385, 329, 4100, 2074797, -2635356, -15710955, -9585, 12814, 93083},
    {46, 38, 511, -369, 305, 4101, 2414769, -4542725, -12796617, -15822, 31549, 110599},
    {48, 33, 507, -388, 267, 4099, 2348444, -2291571, -14826317, -11105, 12339, 106876},
    {48, 31, 510, -388, 251, 4123, 1624689, -1654771, -14859116, -8862, 9187, 89086}
  };

  /** Just there at first, and then close to it. */
  private static void roundNotConvex(int number) {
    int[] near = NOT_CONVEX[number % NOT_CONVEX.length];
    int close = number < NOT_CONVEX.length ? 0 : 1;
    Run run = new Run("not convex " + number, near[0], near[1]);
    run.focus(near[2]);
    for (int k = 0; k < 3; k++) {
      int reach = close * (k == 1 ? 1000 : 1);
      int x = near[3 + 3 * k] + within(reach);
      int y = near[4 + 3 * k] + within(reach);
      run.place(k, x, y, near[5 + 3 * k] + within(reach));
      run.paint(k, within(65536), within(65536), upTo(65537));
    }
    run.cut(true);
    while (run.left() > 0) {
      run.ask();
    }
  }

  public static void main(String[] args) {
    for (int number = 0; number < 300; number++) {
      roundNotConvex(number);
    }
    for (int number = 0; number < RUNS; number++) {
      madeUp(number);
    }
    System.out.println(wrong == 0 ? "all answers are as due" : wrong + " answers are not as due");
    System.out.println("most pieces of one cut: " + mostPieces);
    System.out.println("most pieces at one pixel: " + mostCovered);
    System.out.println("refused calls: " + refused + ", pixels covered: " + hits);
    if (wrong != 0 || mostPieces < 8 || mostCovered < 3) {
      System.exit(1);
    }
  }
}
