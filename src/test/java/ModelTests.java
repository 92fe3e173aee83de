import java.math.BigInteger;
import java.util.ArrayList;
import java.util.List;

/**
 * Many made-up runs against a second writing of the document's terms, in whole numbers without
 * bounds: a long that overflows in the class shows up as a wrong answer.
 */
public final class ModelTests {
  private static final int RUNS = 6000;
  private static long seed = 20261115;
  private static int wrong = 0;
  private static int mostPieces = 0;

  private record Corner(BigInteger[] n) {}

  private record Piece(Corner[] c, BigInteger area) {}

  private static final class Model {
    private final int w;
    private final int h;
    private int f = 32;
    private final long[][] given = new long[3][6];
    private List<Piece> pieces = new ArrayList<>();

    Model(int w, int h) {
      this.w = Math.min(48, Math.max(8, w));
      this.h = Math.min(48, Math.max(8, h));
    }

    int cut(boolean both) {
      List<Corner> ring = new ArrayList<>();
      for (long[] g : given) {
        BigInteger[] n = new BigInteger[6];
        for (int j = 0; j < 6; j++) {
          n[j] = big(g[j]);
        }
        ring.add(new Corner(n));
      }
      long[][] sides = {{0, 0, 1, -4096}, {f, 0, w, 0}, {-f, 0, w, 0}, {0, f, h, 0}, {0, -f, h, 0}};
      for (long[] side : sides) {
        ring = cutBy(ring, side);
      }
      pieces = divide(ring, both);
      return pieces.size();
    }

    private List<Piece> divide(List<Corner> ring, boolean both) {
      List<Corner> shown = new ArrayList<>();
      for (Corner c : ring) {
        BigInteger[] n = c.n().clone();
        BigInteger z = n[2];
        n[0] = floor(n[0].multiply(big(16L * f)), z).add(big(8L * w));
        n[1] = floor(n[1].multiply(big(16L * f)), z).add(big(8L * h));
        n[2] = floor(BigInteger.ONE.shiftLeft(32), z);
        shown.add(new Corner(n));
      }
      List<Piece> result = new ArrayList<>();
      for (int k = 1; k < shown.size() - 1; k++) {
        Corner a = shown.get(0);
        Corner b = shown.get(k);
        Corner c = shown.get(k + 1);
        BigInteger area = edge(a, b, c.n()[0], c.n()[1]);
        if (area.signum() > 0) {
          result.add(new Piece(new Corner[] {a, b, c}, area));
        } else if (area.signum() < 0 && both) {
          result.add(new Piece(new Corner[] {a, c, b}, area.negate()));
        }
      }
      return result;
    }

    /** The three E of a pixel, or null if the piece does not cover it or there is none such. */
    BigInteger[] weights(int i, int x, int y) {
      if (i < 0 || i >= pieces.size() || x < 0 || x >= w || y < 0 || y >= h) {
        return null;
      }
      Corner[] c = pieces.get(i).c();
      int[][] edges = {{1, 2}, {2, 0}, {0, 1}};
      BigInteger[] result = new BigInteger[3];
      for (int e = 0; e < 3; e++) {
        Corner a = c[edges[e][0]];
        Corner b = c[edges[e][1]];
        result[e] = edge(a, b, big(16L * x + 8), big(16L * y + 8));
        int up = b.n()[1].compareTo(a.n()[1]);
        int right = b.n()[0].compareTo(a.n()[0]);
        boolean tie = up < 0 || (up == 0 && right > 0);
        if (result[e].signum() < 0 || (result[e].signum() == 0 && !tie)) {
          return null;
        }
      }
      return result;
    }

    BigInteger sum(int i, BigInteger[] e, int what) {
      BigInteger sum = BigInteger.ZERO;
      for (int c = 0; c < 3; c++) {
        BigInteger[] n = pieces.get(i).c()[c].n();
        sum = sum.add(e[c].multiply(n[2]).multiply(what < 0 ? BigInteger.ONE : n[3 + what]));
      }
      return sum;
    }

    int near(int i, int x, int y) {
      BigInteger[] e = weights(i, x, y);
      return e == null ? -1 : floor(sum(i, e, -1), pieces.get(i).area()).intValueExact();
    }

    int number(int i, int x, int y, int what) {
      BigInteger[] e = weights(i, x, y);
      return e == null || what < 0 || what > 2
          ? 0
          : floor(sum(i, e, what), sum(i, e, -1)).intValueExact();
    }

    int firstOrLast(int i, int y, boolean first) {
      int found = -1;
      for (int x = 0; x < w; x++) {
        if (weights(i, x, y) != null && (found < 0 || !first)) {
          found = x;
        }
      }
      return found;
    }

    int covered(int x, int y) {
      if (x < 0 || x >= w || y < 0 || y >= h) {
        return -1;
      }
      int count = 0;
      for (int i = 0; i < pieces.size(); i++) {
        count += weights(i, x, y) != null ? 1 : 0;
      }
      return count;
    }
  }

  private static BigInteger big(long n) {
    return BigInteger.valueOf(n);
  }

  private static BigInteger floor(BigInteger a, BigInteger b) {
    BigInteger[] parts = a.divideAndRemainder(b);
    boolean down = parts[1].signum() != 0 && parts[1].signum() != b.signum();
    return down ? parts[0].subtract(BigInteger.ONE) : parts[0];
  }

  private static BigInteger edge(Corner a, Corner b, BigInteger x, BigInteger y) {
    BigInteger one = b.n()[0].subtract(a.n()[0]).multiply(y.subtract(a.n()[1]));
    BigInteger other = b.n()[1].subtract(a.n()[1]).multiply(x.subtract(a.n()[0]));
    return one.subtract(other);
  }

  private static BigInteger side(Corner c, long[] side) {
    BigInteger sum = big(side[3]);
    for (int j = 0; j < 3; j++) {
      sum = sum.add(c.n()[j].multiply(big(side[j])));
    }
    return sum;
  }

  private static List<Corner> cutBy(List<Corner> ring, long[] side) {
    List<Corner> result = new ArrayList<>();
    for (int i = 0; i < ring.size(); i++) {
      Corner here = ring.get(i);
      Corner next = ring.get((i + 1) % ring.size());
      boolean hereStays = side(here, side).signum() >= 0;
      boolean nextStays = side(next, side).signum() >= 0;
      if (hereStays) {
        result.add(here);
      }
      if (hereStays != nextStays) {
        result.add(hereStays ? between(here, next, side) : between(next, here, side));
      }
    }
    return result;
  }

  private static Corner between(Corner p, Corner q, long[] side) {
    BigInteger a = side(p, side);
    BigInteger b = side(q, side);
    BigInteger[] n = new BigInteger[6];
    for (int j = 0; j < 6; j++) {
      n[j] = p.n()[j].add(floor(q.n()[j].subtract(p.n()[j]).multiply(a), a.subtract(b)));
    }
    return new Corner(n);
  }

  /** The same numbers in every run of the tests. */
  private static int upTo(int bound) {
    seed = seed * 6364136223846793005L + 1442695040888963407L;
    return (int) ((seed >>> 33) % bound);
  }

  private static int within(int bound) {
    return upTo(2 * bound + 1) - bound;
  }

  private static int near(long middle, int reach) {
    long signed = upTo(4) == 0 ? -middle : middle;
    return (int) Math.max(-16777216, Math.min(16777216, signed + within(reach)));
  }

  private static void due(String call, long got, long want) {
    if (got != want) {
      wrong++;
      if (wrong <= 20) {
        System.out.println(call + " answered " + got + ", due is " + want);
      }
    }
  }

  /**
   * Kinds of corners: anywhere; before the eye and about the window; close to the near side; some
   * of them behind it; at the bounds; thin slivers along a corner of the window, where rounding
   * makes rings that are not convex.
   */
  private static void placeAll(PieceCutter p, Model m, int f, int kind) {
    for (int k = 0; k < 3; k++) {
      int z = within(16777216);
      int x = within(16777216);
      int y = within(16777216);
      if (kind > 0) {
        z = kind == 1 ? 4096 + upTo(1 << (4 + upTo(20))) : 4096 + within(1 << upTo(13));
        z = Math.min(z, 16777216);
        long reach = 2L * z * 48 / f + 2;
        x = within((int) Math.min(reach, 16777216));
        y = within((int) Math.min(reach, 16777216));
      }
      if (kind == 3 && upTo(2) == 0) {
        z = -upTo(16777216);
        x = within(1 << (10 + upTo(15)));
        y = within(1 << (10 + upTo(15)));
      }
      if (kind == 4) {
        x = upTo(2) == 0 ? 16777216 : -16777216;
        y = upTo(2) == 0 ? 16777216 : -16777216;
        z = upTo(3) == 0 ? -16777216 : 16777216;
      }
      if (kind == 5) {
        z = upTo(3) == 0 ? within(16777216) : 4096 + within(1 << (2 + upTo(16)));
        x = near((long) z * m.w / f, 1 << upTo(8));
        y = near((long) z * m.h / f, 1 << upTo(8));
      }
      long[] g = {x, y, z, within(131072), within(131072), upTo(65537)};
      if (upTo(3) == 0) {
        g[3] = upTo(2) == 0 ? 131072 : -131072;
        g[4] = -g[3];
        g[5] = 65536;
      }
      due("place", p.place(k, x, y, z) ? 1 : 0, 1);
      due("paint", p.paint(k, (int) g[3], (int) g[4], (int) g[5]) ? 1 : 0, 1);
      m.given[k] = g;
    }
  }

  private static void compare(int run, PieceCutter p, Model m) {
    String where = "run " + run + ": ";
    int count = m.pieces.size();
    mostPieces = Math.max(mostPieces, count);
    for (int i = -1; i <= count; i++) {
      boolean there = i >= 0 && i < count;
      due(where + "area(" + i + ")", p.area(i), there ? m.pieces.get(i).area().intValueExact() : -1);
      for (int c = 0; c < 18; c++) {
        long want = there ? m.pieces.get(i).c()[c / 6].n()[c % 6].intValueExact() : 0;
        due(where + "piece(" + i + ", " + c / 6 + ", " + c % 6 + ")", p.piece(i, c / 6, c % 6), want);
      }
      for (int n = 0; n < 4; n++) {
        int y = upTo(m.h + 2) - 1;
        due(where + "first(" + i + ", " + y + ")", p.first(i, y), m.firstOrLast(i, y, true));
        due(where + "last(" + i + ", " + y + ")", p.last(i, y), m.firstOrLast(i, y, false));
      }
    }
    for (int n = 0; n < 12; n++) {
      comparePixel(where, p, m, upTo(m.w + 2) - 1, upTo(m.h + 2) - 1);
    }
  }

  private static void comparePixel(String where, PieceCutter p, Model m, int x, int y) {
    String at = x + ", " + y;
    due(where + "covered(" + at + ")", p.covered(x, y), m.covered(x, y));
    for (int i = -1; i <= m.pieces.size(); i++) {
      due(where + "near(" + i + ", " + at + ")", p.near(i, x, y), m.near(i, x, y));
      for (int what = -1; what < 4; what++) {
        String call = where + "number(" + i + ", " + at + ", " + what + ")";
        due(call, p.number(i, x, y, what), m.number(i, x, y, what));
      }
    }
  }

  /** Close to three corners whose ring is not convex: up to nine corners, one above 3 + 5. */
  private static void roundNotConvex(int run) {
    int[][] middle = {{-387, 0, 4104}, {1800000, -2170306, -16000000}, {-9440, 12000, 100000}};
    PieceCutter p = new PieceCutter(48, 48);
    Model m = new Model(48, 48);
    due("focus", p.focus(509) ? 1 : 0, 1);
    m.f = 509;
    for (int k = 0; k < 3; k++) {
      int reach = k == 1 ? 1000 : 1;
      for (int j = 0; j < 3; j++) {
        m.given[k][j] = middle[k][j] + within(reach);
        m.given[k][3 + j] = upTo(65537);
      }
      long[] g = m.given[k];
      due("place", p.place(k, (int) g[0], (int) g[1], (int) g[2]) ? 1 : 0, 1);
      due("paint", p.paint(k, (int) g[3], (int) g[4], (int) g[5]) ? 1 : 0, 1);
    }
    due("run " + run + ": cut(true)", p.cut(true), m.cut(true));
    compare(run, p, m);
  }

  public static void main(String[] args) {
    for (int run = 0; run < 300; run++) {
      roundNotConvex(run);
    }
    for (int run = 0; run < RUNS; run++) {
      int w = upTo(3) == 0 ? 48 : 6 + upTo(45);
      int h = upTo(3) == 0 ? w : 6 + upTo(45);
      PieceCutter p = new PieceCutter(w, h);
      Model m = new Model(w, h);
      for (int round = 0; round < 3; round++) {
        int f = upTo(3) == 0 ? 512 : 8 + upTo(505);
        if (round > 0) {
          due("focus", p.focus(f) ? 1 : 0, 1);
          m.f = f;
        }
        placeAll(p, m, m.f, run % 6);
        boolean both = upTo(2) == 0;
        due("run " + run + ": cut(" + both + ")", p.cut(both), m.cut(both));
        compare(run, p, m);
      }
    }
    System.out.println(wrong == 0 ? "all answers are as due" : wrong + " answers are not as due");
    System.out.println("most pieces of one cut: " + mostPieces);
    if (wrong != 0 || mostPieces < 7) {
      System.exit(1);
    }
  }
}
