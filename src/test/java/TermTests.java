/**
 * The boundary cases that the document's "Terms" name, a test for each sentence, on both sides of
 * the boundary.
 */
public final class TermTests {
  private static final int FAR = 16777216;
  private static int wrong = 0;

  public static void main(String[] args) {
    focusAtFirst();
    focusBounds();
    placeBounds();
    paintBounds();
    allZeroAtFirst();
    divOfNewCorner();
    divOnPicture();
    divOfNumbers();
    numberOfNearSide();
    numberOfPictureSides();
    numberOfJustZeroAndTwoOutside();
    inItsPlaceBetween();
    fewerThanThree();
    oneSideAfterTheOther();
    halfAsManyMore();
    halfAsManyMoreTwiceCrossed();
    areaAboveAndBelowZero();
    areaZero();
    areaSignPieceByPiece();
    edgesJustAtMiddles();
    slantedEdges();
    edgesJustBesideMiddles();
    edgesOfOneSixteenth();
    levelEdgesAllOver();
    mostNearness();
    System.out.println(wrong == 0 ? "all answers are as due" : wrong + " answers are not as due");
    if (wrong != 0) {
      System.exit(1);
    }
  }

  private static void due(String call, long got, long want) {
    if (got != want) {
      wrong++;
      System.out.println(call + " answered " + got + ", due is " + want);
    }
  }

  private static void due(String call, boolean got, boolean want) {
    due(call, got ? 1 : 0, want ? 1 : 0);
  }

  /** A piece's corner on the picture: X, Y, r. */
  private static void dueCorner(String call, PieceCutter p, int i, int c, int[] want) {
    for (int what = 0; what < 3; what++) {
      due(call + ": piece(" + i + ", " + c + ", " + what + ")", p.piece(i, c, what), want[what]);
    }
  }

  /** With focus 16 and z 65536, 256 units are a 16th of a pixel: corners given in 16ths. */
  private static PieceCutter flat(int size, int... sixteenths) {
    PieceCutter p = new PieceCutter(size, size);
    p.focus(16);
    for (int k = 0; k < 3; k++) {
      int x = (sixteenths[2 * k] - 8 * size) * 256;
      int y = (sixteenths[2 * k + 1] - 8 * size) * 256;
      due("flat place", p.place(k, x, y, 65536), true);
    }
    return p;
  }

  // -- the FOCUS 8 .. 512 (32 at first)

  /** With 4096 at 65536, X is 16 * f * 4096 / 65536 = f from the middle, 8 * 48 = 384. */
  private static int focusSeen(PieceCutter p) {
    p.place(0, 0, 0, 65536);
    p.place(1, 4096, 0, 65536);
    p.place(2, 0, 4096, 65536);
    due("focus seen: cut", p.cut(false), 1);
    due("focus seen: Y", p.piece(0, 2, 1), p.piece(0, 1, 0));
    return p.piece(0, 1, 0) - 384;
  }

  private static void focusAtFirst() {
    due("focus at first", focusSeen(new PieceCutter(48, 48)), 32);
  }

  private static void focusBounds() {
    int[] good = {8, 9, 31, 33, 511, 512};
    for (int f : good) {
      PieceCutter p = new PieceCutter(48, 48);
      due("focus(" + f + ")", p.focus(f), true);
      due("focus " + f + " seen", focusSeen(p), f);
    }
    int[] bad = {7, 513, 0, -8, -32, Integer.MIN_VALUE, Integer.MAX_VALUE};
    for (int f : bad) {
      PieceCutter p = new PieceCutter(48, 48);
      due("focus(" + f + ")", p.focus(f), false);
      due("focus(" + f + ") refused, seen", focusSeen(p), 32);
    }
  }

  // -- a CORNER's x, y, z, u, v and l; all 0 at first

  private static void placeBounds() {
    int[] good = {-FAR, -FAR + 1, FAR - 1, FAR};
    int[] bad = {-FAR - 1, FAR + 1, Integer.MIN_VALUE, Integer.MAX_VALUE};
    for (int k = 0; k < 3; k++) {
      for (int n : good) {
        PieceCutter p = new PieceCutter(48, 48);
        due("place(" + k + ") x " + n, p.place(k, n, 0, 0), true);
        due("place(" + k + ") y " + n, p.place(k, 0, n, 0), true);
        due("place(" + k + ") z " + n, p.place(k, 0, 0, n), true);
        due("place(" + k + ") all " + n, p.place(k, n, n, n), true);
      }
      for (int n : bad) {
        PieceCutter p = new PieceCutter(48, 48);
        due("place(" + k + ") x " + n, p.place(k, n, 0, 0), false);
        due("place(" + k + ") y " + n, p.place(k, 0, n, 0), false);
        due("place(" + k + ") z " + n, p.place(k, 0, 0, n), false);
        due("place(" + k + ") all " + n, p.place(k, n, n, n), false);
      }
    }
    farthestPlacesSeen();
    placeFarBehindSeen();
  }

  /** At z 16777216 and focus 32, that far aside is 512 from the middle, and r is 256. */
  private static void farthestPlacesSeen() {
    PieceCutter p = new PieceCutter(48, 48);
    p.place(0, -FAR, -FAR, FAR);
    p.place(1, FAR, -FAR, FAR);
    p.place(2, -FAR, FAR, FAR);
    due("farthest: cut", p.cut(false), 1);
    dueCorner("farthest", p, 0, 0, new int[] {-128, -128, 256});
    dueCorner("farthest", p, 0, 1, new int[] {896, -128, 256});
    dueCorner("farthest", p, 0, 2, new int[] {-128, 896, 256});
    // One less is a 16th less where it is rounded down, and 16777215 away r is still 256.
    p.place(1, FAR - 1, -FAR, FAR);
    p.place(0, -FAR + 1, -FAR, FAR);
    p.place(2, -FAR, FAR, FAR - 1);
    p.cut(false);
    due("farthest but one: X", p.piece(0, 1, 0), 895);
    due("farthest but one, below 0: X", p.piece(0, 0, 0), -128);
    due("farthest but one: r", p.piece(0, 2, 2), 256);
  }

  /**
   * u goes from 65536 at z 16777216 to 0 at z -16777216: at 4096, by 16773120 / 33554432, it is
   * 65536 - 32760. From -16777215 it is 65536 + DIV(-32760.001) = 65536 - 32761.
   */
  private static void placeFarBehindSeen() {
    PieceCutter p = new PieceCutter(48, 48);
    p.place(0, 0, 0, -FAR);
    p.place(1, 0, 8000, FAR);
    p.place(2, 8000, 0, FAR);
    p.paint(1, 65536, 0, 0);
    // Corners 1 and 2 fall on the same 16th: the first piece is nothing.
    due("far behind: cut", p.cut(false), 1);
    dueCorner("far behind", p, 0, 0, new int[] {384, 384 + 500, 1048576});
    due("far behind: u", p.piece(0, 0, 3), 32776);
    p.place(0, 0, 0, -FAR + 1);
    p.cut(false);
    due("far behind but one: u", p.piece(0, 0, 3), 32775);
  }

  private static void paintBounds() {
    int most = 131072;
    for (int k = 0; k < 3; k++) {
      PieceCutter p = flat(8, 0, 0, 128, 0, 0, 128);
      int[] uv = {-most, most, -most + 1, most - 1};
      int[] l = {0, 65536, 1, 65535};
      for (int n = 0; n < 4; n++) {
        due("paint(" + k + ") " + n, p.paint(k, uv[n], uv[3 - n], l[n]), true);
        p.cut(false);
        due("painted " + k + " u", p.piece(0, k, 3), uv[n]);
        due("painted " + k + " v", p.piece(0, k, 4), uv[3 - n]);
        due("painted " + k + " l", p.piece(0, k, 5), l[n]);
      }
      int[] badPaint = {-most - 1, most + 1, Integer.MIN_VALUE, Integer.MAX_VALUE};
      int[] badLight = {-1, 65537, Integer.MIN_VALUE, Integer.MAX_VALUE};
      for (int n = 0; n < 4; n++) {
        due("paint(" + k + ") u " + badPaint[n], p.paint(k, badPaint[n], 0, 0), false);
        due("paint(" + k + ") v " + badPaint[n], p.paint(k, 0, badPaint[n], 0), false);
        due("paint(" + k + ") l " + badLight[n], p.paint(k, 0, 0, badLight[n]), false);
      }
    }
  }

  private static void allZeroAtFirst() {
    PieceCutter p = new PieceCutter(34, 44);
    due("at first: cut(true)", p.cut(true), 0);
    p.focus(512);
    p.place(0, -108, 9, 7020);
    p.place(2, 217, -86, 5814);
    p.paint(0, 7020, -7020, 7020);
    // Corner 1, never placed, is where one stands; but for rounding all would be on one line.
    // From corner 0 on, by 2924 / 7020: x -108 + DIV(44.98), y 9 + DIV(-3.7), u 7020 - 2924.
    // From corner 2 on, by 1718 / 5814: x 217 + DIV(-64.1), y -86 + DIV(25.4).
    due("at first: cut", p.cut(true), 2);
    dueCorner("at first", p, 0, 0, new int[] {272 - 127, 352 + 10, 611818});
    dueCorner("at first", p, 0, 1, new int[] {272 - 2 * 64, 352 + 2 * 5, 1048576});
    dueCorner("at first", p, 0, 2, new int[] {272 + 2 * 152, 352 - 2 * 61, 1048576});
    due("at first: new u", p.piece(0, 1, 3), 4096);
    due("at first: new v", p.piece(0, 1, 4), -4096);
    due("at first: new l", p.piece(0, 1, 5), 4096);
    for (int what = 3; what < 6; what++) {
      due("at first: piece(0, 2, " + what + ")", p.piece(0, 2, what), 0);
    }
    // Painted alone, a corner is still at 0, 0, 0.
    p = new PieceCutter(8, 8);
    for (int k = 0; k < 3; k++) {
      p.paint(k, 5, 6, 7);
    }
    due("painted alone: cut(true)", p.cut(true), 0);
  }

  // -- DIV(a, b): the greatest whole number that is not above a / b

  /** Two of three parts of the way from corners 0 and 2 to corner 1, at z 4098 and 4095. */
  private static PieceCutter twoThirds(int from, int to) {
    PieceCutter p = new PieceCutter(8, 8);
    p.focus(512);
    p.place(0, 0, 0, 4098);
    p.place(1, 60, 0, 4095);
    p.place(2, 0, 60, 4098);
    p.paint(0, from, -from, 30);
    p.paint(1, to, -to, 0);
    p.paint(2, from, -from, 31);
    due("two thirds: cut", p.cut(false), 2);
    return p;
  }

  private static void divOfNewCorner() {
    // What is added is 2 / 3 of 3, 2, 1, 0, -1, -2, -3: rounded down, not towards 0.
    int[] way = {3, 2, 1, 0, -1, -2, -3};
    int[] added = {2, 1, 0, 0, -1, -2, -2};
    int[] taken = {-2, -2, -1, 0, 0, 1, 2};
    for (int n = 0; n < way.length; n++) {
      PieceCutter p = twoThirds(0, way[n]);
      due("new u, way " + way[n], p.piece(0, 1, 3), added[n]);
      due("new v, way " + -way[n], p.piece(0, 1, 4), taken[n]);
      due("new u of 2 to 1, way " + way[n], p.piece(0, 2, 3), added[n]);
      due("new v of 2 to 1, way " + -way[n], p.piece(0, 2, 4), taken[n]);
      p = twoThirds(100, 100 + way[n]);
      due("new u from 100, way " + way[n], p.piece(0, 1, 3), 100 + added[n]);
      due("new v from -100, way " + -way[n], p.piece(0, 1, 4), -100 + taken[n]);
    }
    // Just divided below 0: 30 + DIV(-60, 3); not so: 31 + DIV(-62, 3).
    PieceCutter p = twoThirds(0, 0);
    due("new l from 30", p.piece(0, 1, 5), 10);
    due("new l from 31", p.piece(0, 2, 5), 10);
    due("new X", p.piece(0, 1, 0), 64 + 2 * 40);
    due("new Y", p.piece(0, 2, 1), 64 + 2 * 20);
  }

  private static void divOnPicture() {
    // 16 * 16 * x / 65536: a 16th for 256 units.
    int[] x = {-257, -256, -255, -1, 0, 1, 255, 256, 257};
    int[] want = {-2, -1, -1, -1, 0, 0, 0, 1, 1};
    for (int n = 0; n < x.length; n++) {
      PieceCutter p = flat(8, 64, 64, 128, 0, 128, 128);
      p.place(0, x[n], 0, 65536);
      p.cut(false);
      due("X of " + x[n], p.piece(0, 0, 0), 64 + want[n]);
      due("Y of 0", p.piece(0, 0, 1), 64);
      p.place(0, 0, x[n], 65536);
      p.cut(false);
      due("Y of " + x[n], p.piece(0, 0, 1), 64 + want[n]);
      due("X of 0", p.piece(0, 0, 0), 64);
    }
    // 4294967296 / 65535 = 65537.00002, / 65537 = 65535.00002. 641 * 6700417 is just 1 above it.
    int[] z = {4096, 4097, 65535, 65536, 65537, 6700416, 6700417, FAR - 1, FAR};
    int[] r = {1048576, 1048320, 65537, 65536, 65535, 641, 640, 256, 256};
    for (int n = 0; n < z.length; n++) {
      PieceCutter p = flat(8, 64, 64, 128, 0, 128, 128);
      p.place(0, 0, 0, z[n]);
      due("r: cut", p.cut(false), 1);
      due("r of " + z[n], p.piece(0, 0, 2), r[n]);
    }
  }

  private static void divOfNumbers() {
    // Corners 0, 0; 128, 0; 0, 128, all as near: at pixel 0, 0 the parts are 14, 1, 1 of 16.
    int[] u1 = {17, 16, 15, 1, 0, -1, -15, -16, -17};
    int[] want = {1, 1, 0, 0, 0, -1, -1, -1, -2};
    for (int n = 0; n < u1.length; n++) {
      PieceCutter p = flat(8, 0, 0, 128, 0, 0, 128);
      p.paint(1, u1[n], -u1[n], Math.abs(u1[n]));
      p.cut(false);
      due("number u of " + u1[n], p.number(0, 0, 0, 0), want[n]);
      due("number v of " + -u1[n], p.number(0, 0, 0, 1), want[u1.length - 1 - n]);
      due("number l of " + u1[n], p.number(0, 0, 0, 2), Math.abs(u1[n]) / 16);
    }
  }

  // -- CUT: one with a number not below 0 stays

  /** Whether a given corner, the only one with u 131072, is among the pieces' corners. */
  private static boolean isLeft(PieceCutter p, int count) {
    boolean left = false;
    for (int i = 0; i < count; i++) {
      for (int c = 0; c < 3; c++) {
        left |= p.piece(i, c, 3) == 131072;
      }
    }
    return left;
  }

  private static void numberOfNearSide() {
    int[] z = {4095, 4096, 4097, -4096};
    boolean[] stays = {false, true, true, false};
    for (int k = 0; k < 3; k++) {
      for (int n = 0; n < z.length; n++) {
        PieceCutter p = new PieceCutter(48, 48);
        p.place(0, 0, 0, 8192);
        p.place(1, 1000, 0, 8192);
        p.place(2, 0, 1000, 8192);
        p.place(k, k == 1 ? 1000 : 0, k == 2 ? 1000 : 0, z[n]);
        p.paint(k, 131072, 0, 0);
        int count = p.cut(true);
        String call = "corner " + k + " at z " + z[n];
        due(call + ": cut", count > 0, true);
        due(call + " stays", isLeft(p, count), stays[n]);
        if (stays[n]) {
          due(call + ": cut", count, 1);
          due(call + ": r", p.piece(0, k, 2), z[n] == 4096 ? 1048576 : 1048320);
        }
      }
    }
  }

  /**
   * A picture of 8 x 8 with focus 9, at z 4096: 8 * 4096 = 32768 = 9 * 3641 - 1. A corner at 3640
   * has the number 8, one at 3641 -1. At z 4104 = 9 * 456 one at 8 * 456 = 3648 has just 0.
   */
  private static void numberOfPictureSides() {
    int[] sign = {-1, 1, -1, 1};
    for (int side = 0; side < 4; side++) {
      boolean aside = side < 2;
      for (int k = 0; k < 3; k++) {
        String call = "side " + (side + 1) + ", corner " + k;
        dueAtSide(call + ", number 8", aside, sign[side] * 3640, 4096, k, true);
        dueAtSide(call + ", number 0", aside, sign[side] * 3648, 4104, k, true);
        dueAtSide(call + ", number -1", aside, sign[side] * 3641, 4096, k, false);
        dueAtSide(call + ", number -9", aside, sign[side] * 3649, 4104, k, false);
      }
    }
  }

  /** Corner k is that far aside or down, the others are about the middle: is it a corner left? */
  private static void dueAtSide(String call, boolean aside, int at, int z, int k, boolean stays) {
    PieceCutter p = new PieceCutter(8, 8);
    p.focus(9);
    p.place(k, aside ? at : 0, aside ? 0 : at, z);
    p.place((k + 1) % 3, aside ? 0 : -500, aside ? -500 : 0, 4096);
    p.place((k + 2) % 3, aside ? 0 : 500, aside ? 500 : 0, 4096);
    p.paint(k, 131072, 0, 0);
    int count = p.cut(true);
    due(call + ": cut", count > 0, true);
    due(call + " stays", isLeft(p, count), stays);
    if (stays) {
      due(call + ": cut", count, 1);
    }
  }

  private static void numberOfJustZeroAndTwoOutside() {
    // It stays, and two new ones come in the same place: no area.
    int[][] rings = {
      {-64, 64, -80, 0, -80, 128}, {192, 64, 200, 0, 200, 128},
      {64, -64, 0, -80, 128, -80}, {64, 192, 0, 200, 128, 200}
    };
    for (int[] ring : rings) {
      due("just 0, two outside: cut(true)", flat(8, ring).cut(true), 0);
    }
    // All three just on a side: they stay, on one line.
    due("all just 0: cut(true)", flat(8, -64, 0, -64, 50, -64, 90).cut(true), 0);
    due("all just 0: cut(true)", flat(8, 0, 192, 50, 192, 90, 192).cut(true), 0);
    // Two just on a side and one inside, or outside.
    due("two just 0: cut", flat(8, 192, 0, 192, 128, 0, 64).cut(false), 1);
    due("two just 0, one outside: cut(true)", flat(8, 192, 0, 193, 64, 192, 128).cut(true), 0);
  }

  private static void inItsPlaceBetween() {
    // Each corner in turn is 64 too far to the right: the new ones are at 192, rounded down.
    PieceCutter p = flat(8, 256, 64, 128, 128, 128, 0);
    due("corner 0 out: cut", p.cut(false), 2);
    // The first one that there is comes between 0 and 1, then 1, 2, and the one between 2 and 0.
    dueCorner("corner 0 out", p, 0, 0, new int[] {192, 96, 65536});
    dueCorner("corner 0 out", p, 0, 1, new int[] {128, 128, 65536});
    dueCorner("corner 0 out", p, 0, 2, new int[] {128, 0, 65536});
    dueCorner("corner 0 out", p, 1, 2, new int[] {192, 32, 65536});
    p = flat(8, 128, 0, 256, 64, 128, 128);
    due("corner 1 out: cut", p.cut(false), 2);
    dueCorner("corner 1 out", p, 0, 0, new int[] {128, 0, 65536});
    dueCorner("corner 1 out", p, 0, 1, new int[] {192, 32, 65536});
    dueCorner("corner 1 out", p, 0, 2, new int[] {192, 96, 65536});
    dueCorner("corner 1 out", p, 1, 2, new int[] {128, 128, 65536});
    p = flat(8, 128, 128, 128, 0, 256, 64);
    due("corner 2 out: cut", p.cut(false), 2);
    dueCorner("corner 2 out", p, 0, 0, new int[] {128, 128, 65536});
    dueCorner("corner 2 out", p, 0, 1, new int[] {128, 0, 65536});
    dueCorner("corner 2 out", p, 0, 2, new int[] {192, 32, 65536});
    dueCorner("corner 2 out", p, 1, 2, new int[] {192, 96, 65536});
    // Two out: corner 2 alone stays, and the next one round from it is the first.
    p = flat(8, 256, 0, 256, 128, 128, 64);
    due("corner 2 alone: cut", p.cut(false), 1);
    dueCorner("corner 2 alone", p, 0, 0, new int[] {192, 96, 65536});
    dueCorner("corner 2 alone", p, 0, 1, new int[] {128, 64, 65536});
    dueCorner("corner 2 alone", p, 0, 2, new int[] {192, 32, 65536});
  }

  private static void fewerThanThree() {
    int[][] rings = {
      {-65, 0, -65, 100, -100, 50}, {193, 0, 250, 50, 193, 100},
      {0, -65, 50, -100, 100, -65}, {0, 193, 100, 193, 50, 300}
    };
    for (int[] ring : rings) {
      PieceCutter p = flat(8, ring);
      due("all outside: cut(true)", p.cut(true), 0);
      due("all outside: area(0)", p.area(0), -1);
      due("all outside: covered(0, 0)", p.covered(0, 0), 0);
    }
    // Every side leaves some, but together none: past a corner of the window.
    due("past a corner: cut(true)", flat(8, 150, 240, 240, 150, 300, 300).cut(true), 0);
    due("over a corner: cut(true)", flat(8, 150, 230, 230, 150, 300, 300).cut(true) > 0, true);
    for (int z = 4095; z >= -FAR; z -= 4000000) {
      PieceCutter p = new PieceCutter(8, 8);
      p.place(0, 0, 0, z);
      p.place(1, 1000, 0, z);
      p.place(2, 0, 1000, z);
      due("all at z " + z + ": cut(true)", p.cut(true), 0);
    }
  }

  /**
   * The sides in their order, once each. Where rounding puts a new corner a little outside of its
   * side, or where two sides cut off the same corner, another order or a side taken twice would
   * leave other corners than these.
   */
  private static void oneSideAfterTheOther() {
    int[] at = {-621, -484, 16090, -765, -758, 4250, -429, -428, 4016};
    int[] left = {67, 137, 266933, -385, -337, 556992, -385, -370, 914017};
    dueOnePiece("near, left, once left", 48, 48, 512, at, left);
    at = new int[] {488, -161, 4342, -29, 628, -8130, -763, -252, 10360};
    left = new int[] {160, -64, 1048576, -64, -20, 1048576, -65, -65, 913628};
    dueOnePiece("left, right", 8, 8, 512, at, left);
    at = new int[] {-12, 189, 4373, -361, -496, 4187, 587, -767, 4155};
    left = new int[] {361, 738, 982155, -219, -386, 1019213, 1068, -386, 1013442};
    dueOnePiece("right, upper", 48, 48, 512, at, left);
    at = new int[] {-14866, -22954, -7420, 6607, 11565, 4139, -4016, -19272, 4060};
    left = new int[] {591, 192, 1043988, 503, -64, 1048576, 503, -65, 1046531};
    dueOnePiece("upper, lower", 48, 8, 16, at, left);
    at = new int[] {24138, 10630, 4568, -15393, -10977, 3980, 19618, 15253, 3902};
    left = new int[] {1152, 654, 975020, 1152, 862, 1048576, -91, -36, 1048576};
    dueOnePiece("once right", 48, 48, 16, at, left);
    at = new int[] {-688, 778, 4120, 1284, -1603, 3950, -1597, -2342, 4307};
    left = new int[] {-64, 253, 1048576, -65, -385, 1040195, 75, -384, 1048576};
    dueOnePiece("once upper", 8, 48, 128, at, left);
    at = new int[] {-58, 2839, 3869, -246, 2022, 17296, 973, 1271, -3247};
    left = new int[] {353, 1152, 608956, 354, 623, 248321, 651, 1152, 1046531};
    dueOnePiece("once lower", 48, 48, 128, at, left);
  }

  private static void dueOnePiece(String call, int w, int h, int f, int[] at, int[] left) {
    PieceCutter p = new PieceCutter(w, h);
    p.focus(f);
    for (int k = 0; k < 3; k++) {
      p.place(k, at[3 * k], at[3 * k + 1], at[3 * k + 2]);
    }
    due(call + ": cut(true)", p.cut(true), 1);
    for (int n = 0; n < 9; n++) {
      due(call + ": piece(0, " + n / 3 + ", " + n % 3 + ")", p.piece(0, n / 3, n % 3), left[n]);
    }
  }

  private static void halfAsManyMore() {
    // The near side leaves 4, the left one then half as many more, 6; the others 7, 8 and 9.
    PieceCutter p = new PieceCutter(48, 48);
    p.focus(509);
    p.place(0, -387, -3, 4104);
    p.place(1, 1799603, -2170411, -15999220);
    p.place(2, -9443, 11997, 99999);
    int[][] ring = {
      {-384, 378, 1046531}, {-385, 376, 1046787}, {-386, 372, 1048576}, {914, -386, 1048576},
      {1151, -386, 909757}, {1151, 23, 495040}, {-146, 1151, 113596}, {-385, 1151, 255683},
      {-386, 408, 1014159}
    };
    int[] areas = {2, 9316, 181068, 627815, 1271045, 184747, 1516};
    due("half as many more: cut(false)", p.cut(false), 7);
    for (int i = 0; i < 7; i++) {
      due("half as many more: area(" + i + ")", p.area(i), areas[i]);
      dueCorner("half as many more", p, i, 0, ring[0]);
      dueCorner("half as many more", p, i, 1, ring[i + 1]);
      dueCorner("half as many more", p, i, 2, ring[i + 2]);
    }
    due("half as many more: area(7)", p.area(7), -1);
  }

  private static void halfAsManyMoreTwiceCrossed() {
    // 4, 6, 7, 8, and the last side is crossed four times: 10 corners, two more than 3 + 5.
    PieceCutter p = new PieceCutter(48, 41);
    p.focus(511);
    p.place(0, -385, 329, 4100);
    p.place(1, 2074797, -2635356, -15710955);
    p.place(2, -9585, 12814, 93083);
    int[][] ring = {
      {-384, 982, 1047808}, {-385, 982, 1048064}, {-385, 980, 1048576}, {982, -329, 1048576},
      {1150, -329, 649375}, {1151, -212, 360406}, {-5, 983, 134744}, {-388, 983, 1044241},
      {-386, 983, 1044241}, {-386, 982, 1044750}
    };
    int[] areas = {2, 4043, 220248, 180789, 454061, 383, -2, 2};
    due("ten corners: cut(true)", p.cut(true), 8);
    for (int i = 0; i < 8; i++) {
      boolean turned = areas[i] < 0;
      due("ten corners: area(" + i + ")", p.area(i), Math.abs(areas[i]));
      dueCorner("ten corners", p, i, 0, ring[0]);
      dueCorner("ten corners", p, i, turned ? 2 : 1, ring[i + 1]);
      dueCorner("ten corners", p, i, turned ? 1 : 2, ring[i + 2]);
    }
    due("ten corners: area(8)", p.area(8), -1);
    // Without BOTH the seventh is nothing, and the eighth is the last.
    due("ten corners: cut(false)", p.cut(false), 7);
    due("ten corners: area(5)", p.area(5), 383);
    due("ten corners: area(6)", p.area(6), 2);
    dueCorner("ten corners", p, 6, 2, ring[9]);
    due("ten corners: area(7)", p.area(7), -1);
  }

  // -- ON THE PICTURE: AREA 0, above and below

  private static void areaAboveAndBelowZero() {
    PieceCutter p = flat(8, 5, 5, 6, 5, 5, 6);
    due("area 1: cut(false)", p.cut(false), 1);
    due("area 1: area(0)", p.area(0), 1);
    due("area 1: cut(true)", p.cut(true), 1);
    due("area 1, both: area(0)", p.area(0), 1);
    dueCorner("area 1, both", p, 0, 1, new int[] {6, 5, 65536});
    dueCorner("area 1, both", p, 0, 2, new int[] {5, 6, 65536});
    p = flat(8, 5, 5, 5, 6, 6, 5);
    p.paint(1, 11, 12, 13);
    p.paint(2, 21, 22, 23);
    due("area -1: cut(false)", p.cut(false), 0);
    due("area -1: area(0)", p.area(0), -1);
    due("area -1: cut(true)", p.cut(true), 1);
    due("area -1, both: area(0)", p.area(0), 1);
    dueCorner("area -1, both", p, 0, 0, new int[] {5, 5, 65536});
    dueCorner("area -1, both", p, 0, 1, new int[] {6, 5, 65536});
    dueCorner("area -1, both", p, 0, 2, new int[] {5, 6, 65536});
    for (int what = 3; what < 6; what++) {
      due("area -1, both: second's " + what, p.piece(0, 1, what), 21 + what - 3);
      due("area -1, both: third's " + what, p.piece(0, 2, what), 11 + what - 3);
    }
    // The largest: half the window of a picture of 48 x 48.
    p = flat(48, -384, -384, 1152, -384, 1152, 1152);
    due("largest: cut(false)", p.cut(false), 1);
    due("largest: area(0)", p.area(0), 1536 * 1536);
    p = flat(48, -384, -384, 1152, 1152, 1152, -384);
    due("largest, turned: cut(true)", p.cut(true), 1);
    due("largest, turned: area(0)", p.area(0), 1536 * 1536);
  }

  private static void areaZero() {
    int[][] rings = {
      {0, 0, 10, 10, 20, 20}, {0, 0, 20, 20, 10, 10}, {5, 5, 5, 5, 5, 5}, {5, 5, 5, 5, 90, 9},
      {5, 5, 90, 9, 5, 5}, {90, 9, 5, 5, 5, 5}, {0, 7, 50, 7, 90, 7}, {7, 0, 7, 50, 7, 90}
    };
    for (int[] ring : rings) {
      PieceCutter p = flat(8, ring);
      due("area 0: cut(false)", p.cut(false), 0);
      due("area 0: cut(true)", p.cut(true), 0);
      due("area 0: area(0)", p.area(0), -1);
    }
    // Corners apart that fall on the same 16th.
    PieceCutter p = flat(8, 64, 64, 64, 64, 64, 64);
    p.place(1, 255, 0, 65536);
    p.place(2, 0, 255, 65536);
    due("one 16th: cut(true)", p.cut(true), 0);
    p.place(1, 256, 0, 65536);
    due("two 16ths: cut(true)", p.cut(true), 0);
    p.place(2, 0, 256, 65536);
    due("three 16ths: cut(false)", p.cut(false), 1);
  }

  private static void areaSignPieceByPiece() {
    // What rounding leaves of this ring: its first piece is below 0, its second above.
    PieceCutter p = new PieceCutter(48, 48);
    p.focus(434);
    p.place(0, -479, -455, 4304);
    p.place(1, -462, -460, 4171);
    p.place(2, 458, 441, 4096);
    int[][] ring = {
      {-386, -383, 1029968}, {1151, 1123, 1048576}, {1151, 1122, 1048320}, {-385, -348, 998133}
    };
    due("two signs: cut(false)", p.cut(false), 1);
    due("two signs, one alone: area(0)", p.area(0), 52290);
    dueCorner("two signs, one alone", p, 0, 0, ring[0]);
    dueCorner("two signs, one alone", p, 0, 1, ring[2]);
    dueCorner("two signs, one alone", p, 0, 2, ring[3]);
    due("two signs, one alone: covered(33, 32)", p.covered(33, 32), 1);
    due("two signs: cut(true)", p.cut(true), 2);
    due("two signs: area(0)", p.area(0), 1537);
    dueCorner("two signs", p, 0, 0, ring[0]);
    dueCorner("two signs", p, 0, 1, ring[2]);
    dueCorner("two signs", p, 0, 2, ring[1]);
    due("two signs: area(1)", p.area(1), 52290);
    dueCorner("two signs", p, 1, 0, ring[0]);
    dueCorner("two signs", p, 1, 1, ring[2]);
    dueCorner("two signs", p, 1, 2, ring[3]);
    // The turned piece lies over the other one.
    due("two signs: covered(33, 32)", p.covered(33, 32), 2);
  }

  // -- COVERED: E is above 0, or 0 and Yb < Ya, or 0 and Yb = Ya and Xb > Xa

  /** The ring with its first corner moved on, so that each edge is 0 1, 1 2 and 2 0 in turn. */
  private static PieceCutter turned(int by, int... ring) {
    int[] moved = new int[6];
    for (int n = 0; n < 6; n++) {
      moved[n] = ring[(n + 2 * by) % 6];
    }
    PieceCutter p = flat(8, moved);
    due("turned: cut(false)", p.cut(false), 1);
    return p;
  }

  private static void edgesJustAtMiddles() {
    for (int by = 0; by < 3; by++) {
      for (int move = -1; move <= 1; move++) {
        String call = " moved by " + move + ", turned by " + by;
        // The middle of pixel 3, 3 is at 56, 56. An edge that goes up has the piece to its right.
        int at = 56 + move;
        PieceCutter p = turned(by, at, 128, at, 0, 128, 64);
        due("up" + call, p.covered(3, 3), move <= 0 ? 1 : 0);
        due("up" + call + ", beside", p.covered(4, 3), 1);
        due("up" + call + ", before", p.covered(2, 3), 0);
        p = turned(by, at, 0, at, 128, 0, 64);
        due("down" + call, p.covered(3, 3), move > 0 ? 1 : 0);
        due("down" + call + ", beside", p.covered(2, 3), 1);
        p = turned(by, 0, at, 128, at, 64, 128);
        due("level to the right" + call, p.covered(3, 3), move <= 0 ? 1 : 0);
        due("level to the right" + call + ", below", p.covered(3, 4), 1);
        p = turned(by, 128, at, 0, at, 64, 0);
        due("level to the left" + call, p.covered(3, 3), move > 0 ? 1 : 0);
        due("level to the left" + call + ", above", p.covered(3, 2), 1);
      }
    }
  }

  private static void slantedEdges() {
    for (int by = 0; by < 3; by++) {
      String call = ", turned by " + by;
      // Through 56, 56: up or down, to the right or to the left.
      due("up to the right" + call, turned(by, 8, 104, 104, 8, 104, 104).covered(3, 3), 1);
      due("up to the left" + call, turned(by, 104, 104, 8, 8, 104, 8).covered(3, 3), 1);
      due("down to the left" + call, turned(by, 104, 8, 8, 104, 8, 8).covered(3, 3), 0);
      due("down to the right" + call, turned(by, 8, 8, 104, 104, 8, 104).covered(3, 3), 0);
      // A 16th to one side or the other.
      due("up to the right, 1 less" + call, turned(by, 7, 104, 103, 8, 104, 104).covered(3, 3), 1);
      due("up to the right, 1 more" + call, turned(by, 9, 104, 105, 8, 106, 104).covered(3, 3), 0);
      due("down to the left, 1 less" + call, turned(by, 103, 8, 7, 104, 6, 8).covered(3, 3), 0);
      due("down to the left, 1 more" + call, turned(by, 105, 8, 9, 104, 8, 8).covered(3, 3), 1);
    }
  }

  /** The least E there is on either side of 0, for edges through or past 56, 56. */
  private static void edgesJustBesideMiddles() {
    for (int by = 0; by < 3; by++) {
      for (int e = -1; e <= 1; e++) {
        String call = " with E " + e + ", turned by " + by;
        int ifUpOrRight = e >= 0 ? 1 : 0;
        int ifDownOrLeft = e > 0 ? 1 : 0;
        // E = -e * (56 - 57) - (39 - 57) * (56 - 56), and likewise for the others.
        PieceCutter p = turned(by, 56, 57, 56 - e, 39, 90, 56);
        due("up" + call, p.covered(3, 3), ifUpOrRight);
        p = turned(by, 56, 55, 56 + e, 73, 20, 56);
        due("down" + call, p.covered(3, 3), ifDownOrLeft);
        p = turned(by, 55, 56, 73, 56 - e, 56, 90);
        due("to the right" + call, p.covered(3, 3), ifUpOrRight);
        p = turned(by, 57, 56, 39, 56 + e, 56, 20);
        due("to the left" + call, p.covered(3, 3), ifDownOrLeft);
      }
    }
  }

  /** Edges that go up or down by one 16th, with a corner just at the middle of 3, 3. */
  private static void edgesOfOneSixteenth() {
    for (int by = 0; by < 3; by++) {
      due("up by 1 to it", turned(by, 40, 57, 56, 56, 90, 56).covered(3, 3), 1);
      due("down by 1 to it", turned(by, 40, 55, 56, 56, 90, 60).covered(3, 3), 0);
      due("up by 1 from it", turned(by, 56, 56, 90, 55, 60, 90).covered(3, 3), 1);
      due("down by 1 from it", turned(by, 56, 56, 90, 57, 60, 90).covered(3, 3), 0);
      due("to the left, up by 1", turned(by, 72, 57, 56, 56, 60, 20).covered(3, 3), 1);
      due("to the left, down by 1", turned(by, 72, 55, 56, 56, 60, 20).covered(3, 3), 0);
    }
  }

  /** Level edges in every row of middles, near the left and near the right end of it. */
  private static void levelEdgesAllOver() {
    for (int row = 1; row < 7; row++) {
      int y = 16 * row + 8;
      for (int column = 1; column < 6; column++) {
        int x = 16 * column + 8;
        PieceCutter p = turned(row % 3, x - 1, y, x + 17, y, x, y + 16);
        due("to the right at " + column + ", " + row, p.covered(column, row), 1);
        due("to the right at its end", p.covered(column + 1, row), 1);
        p = turned(row % 3, x + 17, y, x - 1, y, x, y - 16);
        due("to the left at " + column + ", " + row, p.covered(column, row), 0);
        due("to the left at its end", p.covered(column + 1, row), 0);
      }
    }
  }

  // -- NEARNESS

  private static void mostNearness() {
    // As near as can be, 4096: 1048576 all over; as far as can be, 16777216: 256.
    PieceCutter p = new PieceCutter(8, 8);
    p.focus(8);
    p.place(0, -4096, -4096, 4096);
    p.place(1, 4096, -4096, 4096);
    p.place(2, -4096, 4096, 4096);
    p.cut(false);
    due("nearest: near(0, 0, 0)", p.near(0, 0, 0), 1048576);
    due("nearest: near(0, 3, 3)", p.near(0, 3, 3), 1048576);
    p.place(0, -FAR, -FAR, FAR);
    p.place(1, FAR, -FAR, FAR);
    p.place(2, -FAR, FAR, FAR);
    p.cut(false);
    due("farthest: near(0, 0, 0)", p.near(0, 0, 0), 256);
    due("farthest: near(0, 3, 3)", p.near(0, 3, 3), 256);
  }
}
