/**
 * A cutter of triangles: what is seen of one through a window is cut by five sides, laid on a
 * picture's grid, divided into pieces, and told pixel by pixel, with its numbers as they look from
 * where one stands.
 */
public final class PieceCutter {
  /** Nothing there. */
  public static final int NONE = -1;

  private static final int SMALLEST_PICTURE = 8;
  private static final int LARGEST_PICTURE = 48;
  private static final int SMALLEST_FOCUS = 8;
  private static final int LARGEST_FOCUS = 512;
  private static final int FOCUS_AT_FIRST = 32;
  private static final int FARTHEST_PLACE = 16777216;
  private static final int FARTHEST_PAINT = 131072;
  private static final int MOST_LIGHT = 65536;
  private static final int NEAREST_Z = 4096;
  private static final long NEARNESS_UNIT = 4294967296L;

  private static final int SIDES = 5;
  private static final int CORNERS_GIVEN = 3;
  // Each side may leave half as many corners more: 3, 4, 6, 9, 13, 19.
  private static final int MOST_CORNERS = 19;
  private static final int MOST_PIECES = MOST_CORNERS - 2;

  // What a row of a ring holds. On the picture the first three are X, Y and r instead.
  private static final int ROW = 6;
  private static final int X = 0;
  private static final int Y = 1;
  private static final int Z = 2;
  private static final int R = 2;
  private static final int U = 3;
  private static final int V = 4;
  private static final int L = 5;
  private static final int PAINTS = 3;

  private final int width;
  private final int height;
  private int focusNow;
  private final Ring given;
  private Ring kept;
  private Ring spare;
  // A ring apart, because the pieces must outlive a new focus, place or paint.
  private final Ring picture;
  private final Fan fan;

  public PieceCutter(int width, int height) {
    this.width = pictureSize(width);
    this.height = pictureSize(height);
    focusNow = FOCUS_AT_FIRST;
    given = new Ring();
    for (int k = 0; k < CORNERS_GIVEN; k++) {
      given.addRow();
    }
    kept = new Ring();
    spare = new Ring();
    picture = new Ring();
    fan = new Fan();
  }

  public boolean focus(int f) {
    if (f < SMALLEST_FOCUS || f > LARGEST_FOCUS) {
      return false;
    }
    focusNow = f;
    return true;
  }

  public boolean place(int k, int x, int y, int z) {
    if (!given.has(k) || !isPlace(x) || !isPlace(y) || !isPlace(z)) {
      return false;
    }
    given.put(k, X, x);
    given.put(k, Y, y);
    given.put(k, Z, z);
    return true;
  }

  public boolean paint(int k, int u, int v, int l) {
    if (!given.has(k) || !isPaint(u) || !isPaint(v) || l < 0 || l > MOST_LIGHT) {
      return false;
    }
    given.put(k, U, u);
    given.put(k, V, v);
    given.put(k, L, l);
    return true;
  }

  public int cut(boolean both) {
    kept.clear();
    for (int k = 0; k < CORNERS_GIVEN; k++) {
      kept.addCopy(given, k);
    }
    for (int side = 0; side < SIDES; side++) {
      cutBySide(side);
    }
    layOnPicture();
    divide(both);
    return fan.size;
  }

  public int piece(int i, int c, int what) {
    return (int) picture.at(fan.corner(i, c), what);
  }

  public int area(int i) {
    return fan.has(i) ? fan.areas[i] : NONE;
  }

  public int first(int i, int y) {
    for (int x = 0; x < width; x++) {
      if (covers(i, x, y)) {
        return x;
      }
    }
    return NONE;
  }

  public int last(int i, int y) {
    for (int x = width - 1; x >= 0; x--) {
      if (covers(i, x, y)) {
        return x;
      }
    }
    return NONE;
  }

  public int near(int i, int x, int y) {
    if (!covers(i, x, y)) {
      return NONE;
    }
    return (int) div(weightSum(i, x, y), area(i));
  }

  public int number(int i, int x, int y, int what) {
    if (what < 0 || what >= PAINTS || !covers(i, x, y)) {
      return 0;
    }
    long sum = 0;
    for (int c = 0; c < CORNERS_GIVEN; c++) {
      sum += weight(i, c, x, y) * picture.at(fan.corner(i, c), U + what);
    }
    return (int) div(sum, weightSum(i, x, y));
  }

  public int covered(int x, int y) {
    if (!isPixel(x, y)) {
      return NONE;
    }
    int count = 0;
    for (int i = 0; i < fan.size; i++) {
      if (covers(i, x, y)) {
        count++;
      }
    }
    return count;
  }

  private static int pictureSize(int wanted) {
    return Math.max(SMALLEST_PICTURE, Math.min(LARGEST_PICTURE, wanted));
  }

  private static boolean isPlace(int value) {
    return value >= -FARTHEST_PLACE && value <= FARTHEST_PLACE;
  }

  private static boolean isPaint(int value) {
    return value >= -FARTHEST_PAINT && value <= FARTHEST_PAINT;
  }

  private boolean isPixel(int x, int y) {
    return x >= 0 && x < width && y >= 0 && y < height;
  }

  /** The document's DIV. No divisor of the document's is ever 0; the test keeps it so for sure. */
  private static long div(long a, long b) {
    return b == 0 ? 0 : Math.floorDiv(a, b);
  }

  private void cutBySide(int side) {
    spare.clear();
    for (int c = 0; c < kept.size; c++) {
      int next = c + 1 < kept.size ? c + 1 : 0;
      boolean stays = sideNumber(c, side) >= 0;
      boolean nextStays = sideNumber(next, side) >= 0;
      if (stays) {
        spare.addCopy(kept, c);
      }
      // Reckoned from the one that stays, as the document's a - b is then always above 0.
      if (stays && !nextStays) {
        addBetween(c, next, side);
      } else if (!stays && nextStays) {
        addBetween(next, c, side);
      }
    }
    Ring result = spare;
    spare = kept;
    kept = result;
  }

  private long sideNumber(int corner, int side) {
    long x = focusNow * kept.at(corner, X);
    long y = focusNow * kept.at(corner, Y);
    long z = kept.at(corner, Z);
    switch (side) {
      case 0:
        return z - NEAREST_Z;
      case 1:
        return x + width * z;
      case 2:
        return width * z - x;
      case 3:
        return y + height * z;
      default:
        return height * z - y;
    }
  }

  private void addBetween(int staying, int leaving, int side) {
    long a = sideNumber(staying, side);
    long b = sideNumber(leaving, side);
    int added = spare.addRow();
    for (int what = 0; what < ROW; what++) {
      long p = kept.at(staying, what);
      long q = kept.at(leaving, what);
      spare.put(added, what, p + div((q - p) * a, a - b));
    }
  }

  private void layOnPicture() {
    picture.clear();
    for (int c = 0; c < kept.size; c++) {
      long z = kept.at(c, Z);
      picture.addCopy(kept, c);
      picture.put(c, X, div(16L * focusNow * kept.at(c, X), z) + 8L * width);
      picture.put(c, Y, div(16L * focusNow * kept.at(c, Y), z) + 8L * height);
      picture.put(c, R, div(NEARNESS_UNIT, z));
    }
  }

  private void divide(boolean both) {
    fan.clear();
    for (int k = 1; k + 1 < picture.size; k++) {
      long doubled = areaWith(k, k + 1);
      if (doubled > 0) {
        fan.add(k, k + 1, doubled);
      } else if (doubled < 0 && both) {
        fan.add(k + 1, k, -doubled);
      }
    }
  }

  private long areaWith(int second, int third) {
    long x0 = picture.at(0, X);
    long y0 = picture.at(0, Y);
    return (picture.at(second, X) - x0) * (picture.at(third, Y) - y0)
        - (picture.at(third, X) - x0) * (picture.at(second, Y) - y0);
  }

  private boolean covers(int i, int x, int y) {
    if (!isPixel(x, y) || !fan.has(i)) {
      return false;
    }
    for (int c = 0; c < CORNERS_GIVEN; c++) {
      if (!isInside(i, c, x, y)) {
        return false;
      }
    }
    return true;
  }

  /** Whether a pixel is on the piece's side of the edge that lies across from its corner c. */
  private boolean isInside(int i, int c, int x, int y) {
    long e = edgeNumber(i, c, x, y);
    if (e != 0) {
      return e > 0;
    }
    // A middle right on an edge that two pieces share belongs to one of them alone.
    int from = fan.corner(i, cornerAfter(c));
    int to = fan.corner(i, cornerAfter(cornerAfter(c)));
    long rise = picture.at(to, Y) - picture.at(from, Y);
    return rise < 0 || (rise == 0 && picture.at(to, X) > picture.at(from, X));
  }

  /** The document's E, for the edge that lies across from corner c: 1 2, 2 0, 0 1. */
  private long edgeNumber(int i, int c, int x, int y) {
    int from = fan.corner(i, cornerAfter(c));
    int to = fan.corner(i, cornerAfter(cornerAfter(c)));
    long xa = picture.at(from, X);
    long ya = picture.at(from, Y);
    return (picture.at(to, X) - xa) * (middle(y) - ya) - (picture.at(to, Y) - ya) * (middle(x) - xa);
  }

  private static int cornerAfter(int c) {
    return c < CORNERS_GIVEN - 1 ? c + 1 : 0;
  }

  private static long middle(int pixel) {
    return 16L * pixel + 8;
  }

  private long weight(int i, int c, int x, int y) {
    return edgeNumber(i, c, x, y) * picture.at(fan.corner(i, c), R);
  }

  private long weightSum(int i, int x, int y) {
    return weight(i, 0, x, y) + weight(i, 1, x, y) + weight(i, 2, x, y);
  }

  /** Corners in their order round, each a row of six numbers. */
  private static final class Ring {
    private final long[] numbers = new long[MOST_CORNERS * ROW];
    private int size = 0;

    private boolean has(int corner) {
      return corner >= 0 && corner < size && size <= MOST_CORNERS;
    }

    private long at(int corner, int what) {
      return has(corner) && what >= 0 && what < ROW ? numbers[corner * ROW + what] : 0;
    }

    private void put(int corner, int what, long value) {
      if (has(corner) && what >= 0 && what < ROW) {
        numbers[corner * ROW + what] = value;
      }
    }

    private void clear() {
      size = 0;
    }

    private int addRow() {
      if (size >= MOST_CORNERS) {
        return NONE;
      }
      size++;
      return size - 1;
    }

    private void addCopy(Ring other, int corner) {
      int added = addRow();
      for (int what = 0; what < ROW; what++) {
        put(added, what, other.at(corner, what));
      }
    }
  }

  /** The pieces: each has the picture's corner 0 and two more, told by their places in its ring. */
  private static final class Fan {
    private final int[] seconds = new int[MOST_PIECES];
    private final int[] thirds = new int[MOST_PIECES];
    private final int[] areas = new int[MOST_PIECES];
    private int size = 0;

    private boolean has(int i) {
      return i >= 0 && i < size && size <= MOST_PIECES;
    }

    private void clear() {
      size = 0;
    }

    private void add(int second, int third, long doubled) {
      if (size >= 0 && size < MOST_PIECES) {
        seconds[size] = second;
        thirds[size] = third;
        areas[size] = (int) doubled;
        size++;
      }
    }

    /** The place in the picture's ring of corner c of piece i; NONE if there is none such. */
    private int corner(int i, int c) {
      if (!has(i)) {
        return NONE;
      }
      switch (c) {
        case 0:
          return 0;
        case 1:
          return seconds[i];
        case 2:
          return thirds[i];
        default:
          return NONE;
      }
    }
  }
}
