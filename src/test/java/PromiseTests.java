/** Each promise of the document on its own: ordinary inputs, named edges, wrong inputs. */
public final class PromiseTests {
  private static final int LOW = Integer.MIN_VALUE;
  private static final int HIGH = Integer.MAX_VALUE;
  private static int wrong = 0;

  public static void main(String[] args) {
    newObject();
    pictureSizes();
    focus();
    focusLeavesPieces();
    place();
    paint();
    cutByNearSide();
    cutByPictureSides();
    cutRounding();
    cutReplaces();
    cutSkipsNothings();
    bothTurnsPieces();
    piece();
    area();
    firstAndLast();
    picturesEdges();
    sharedEdges();
    tieRules();
    near();
    number();
    numberFromWhereOneStands();
    covered();
    due("NONE", PieceCutter.NONE, -1);
    System.out.println(wrong == 0 ? "all answers are as due" : wrong + " answers are not as due");
    if (wrong != 0) {
      System.exit(1);
    }
  }

  private static void due(String call, long got, long want) {
    if (got != want) {
      wrong++;
      System.out.println(call + " answered " + got + ", due is " + want);
    }
  }

  private static void due(String call, boolean got, boolean want) {
    due(call, got ? 1 : 0, want ? 1 : 0);
  }

  /** With focus 16 and z 65536, 256 units are a 16th of a pixel: corners given in 16ths. */
  private static PieceCutter flat(int size, int[] sixteenths) {
    PieceCutter p = new PieceCutter(size, size);
    p.focus(16);
    for (int k = 0; k < 3; k++) {
      int x = (sixteenths[2 * k] - 8 * size) * 256;
      int y = (sixteenths[2 * k + 1] - 8 * size) * 256;
      due("flat place", p.place(k, x, y, 65536), true);
    }
    return p;
  }

  private static void newObject() {
    PieceCutter p = new PieceCutter(20, 30);
    due("new area(0)", p.area(0), -1);
    due("new piece(0, 0, 2)", p.piece(0, 0, 2), 0);
    due("new first(0, 0)", p.first(0, 0), -1);
    due("new last(0, 0)", p.last(0, 0), -1);
    due("new near(0, 0, 0)", p.near(0, 0, 0), -1);
    due("new number(0, 0, 0, 0)", p.number(0, 0, 0, 0), 0);
    due("new covered(0, 0)", p.covered(0, 0), 0);
    // All corners are 0, 0, 0 at first, and so before the near side.
    due("new cut(true)", p.cut(true), 0);
    // The focus is 32 at first: 65536 at distance 65536 * 4 is 8 pixels from the middle.
    p.place(0, 0, 0, 262144);
    p.place(1, 65536, 0, 262144);
    p.place(2, 0, 65536, 262144);
    due("new cut(false)", p.cut(false), 1);
    due("new piece(0, 0, 0)", p.piece(0, 0, 0), 160);
    due("new piece(0, 0, 1)", p.piece(0, 0, 1), 240);
    due("new piece(0, 1, 0)", p.piece(0, 1, 0), 288);
    due("new piece(0, 2, 1)", p.piece(0, 2, 1), 368);
    for (int what = 3; what < 6; what++) {
      due("new piece(0, 1, " + what + ")", p.piece(0, 1, what), 0);
    }
  }

  private static void pictureSizes() {
    int[] asked = {LOW, -1, 0, 7, 8, 9, 47, 48, 49, HIGH};
    int[] got = {8, 8, 8, 8, 8, 9, 47, 48, 48, 48};
    for (int i = 0; i < asked.length; i++) {
      PieceCutter wide = new PieceCutter(asked[i], 20);
      due("width " + asked[i], wide.covered(got[i] - 1, 19), 0);
      due("width " + asked[i], wide.covered(got[i], 19), -1);
      due("width " + asked[i], wide.covered(0, 20), -1);
      PieceCutter high = new PieceCutter(20, asked[i]);
      due("height " + asked[i], high.covered(19, got[i] - 1), 0);
      due("height " + asked[i], high.covered(19, got[i]), -1);
      due("height " + asked[i], high.covered(20, 0), -1);
    }
  }

  private static void focus() {
    PieceCutter p = new PieceCutter(8, 8);
    int[] good = {8, 9, 32, 511, 512};
    for (int f : good) {
      due("focus(" + f + ")", p.focus(f), true);
    }
    p.focus(16);
    int[] bad = {LOW, -32, 0, 7, 513, HIGH};
    for (int f : bad) {
      due("focus(" + f + ")", p.focus(f), false);
    }
    // A focus refused leaves the one before: 16 * 16 * 4096 / 65536 = 16.
    p.place(0, 0, 0, 65536);
    p.place(1, 4096, 0, 65536);
    p.place(2, 0, 8192, 65536);
    p.cut(false);
    due("focus 16: piece(0, 1, 0)", p.piece(0, 1, 0), 64 + 16);
    due("focus 16: piece(0, 2, 1)", p.piece(0, 2, 1), 64 + 32);
  }

  private static void focusLeavesPieces() {
    PieceCutter p = flat(8, new int[] {0, 0, 128, 0, 0, 128});
    p.paint(0, 10, 20, 30);
    due("cut", p.cut(false), 1);
    p.focus(8);
    p.place(0, 5, 5, 5);
    p.paint(0, 7, 8, 9);
    due("after focus: area(0)", p.area(0), 128 * 128);
    due("after focus: piece(0, 1, 0)", p.piece(0, 1, 0), 128);
    due("after place: piece(0, 0, 0)", p.piece(0, 0, 0), 0);
    due("after place: piece(0, 0, 2)", p.piece(0, 0, 2), 65536);
    due("after paint: piece(0, 0, 3)", p.piece(0, 0, 3), 10);
    due("after paint: piece(0, 0, 5)", p.piece(0, 0, 5), 30);
    due("after focus: last(0, 0)", p.last(0, 0), 6);
    due("after focus: near(0, 0, 0)", p.near(0, 0, 0), 65536);
  }

  private static void place() {
    PieceCutter p = new PieceCutter(8, 8);
    int far = 16777216;
    for (int k = 0; k < 3; k++) {
      due("place far", p.place(k, far, far, far), true);
      due("place far", p.place(k, -far, -far, -far), true);
    }
    p = flat(8, new int[] {0, 0, 128, 0, 0, 128});
    int[] bad = {LOW, -far - 1, far + 1, HIGH};
    for (int b : bad) {
      due("place x " + b, p.place(1, b, 1, 1), false);
      due("place y " + b, p.place(1, 1, b, 1), false);
      due("place z " + b, p.place(1, 1, 1, b), false);
    }
    int[] none = {LOW, -1, 3, 4, HIGH};
    for (int k : none) {
      due("place(" + k + ", ..)", p.place(k, 1, 1, 1), false);
    }
    p.cut(false);
    due("place refused: area(0)", p.area(0), 128 * 128);
    due("place refused: piece(0, 1, 0)", p.piece(0, 1, 0), 128);
    due("place refused: piece(0, 1, 1)", p.piece(0, 1, 1), 0);
    due("place refused: piece(0, 1, 2)", p.piece(0, 1, 2), 65536);
  }

  private static void paint() {
    PieceCutter p = flat(8, new int[] {0, 0, 128, 0, 0, 128});
    int far = 131072;
    due("paint(0)", p.paint(0, far, -far, 0), true);
    due("paint(1)", p.paint(1, -far, far, 65536), true);
    due("paint(2)", p.paint(2, 1, -2, 3), true);
    int[] bad = {LOW, -far - 1, far + 1, HIGH};
    for (int b : bad) {
      due("paint u " + b, p.paint(1, b, 4, 5), false);
      due("paint v " + b, p.paint(1, 4, b, 5), false);
    }
    int[] badLight = {LOW, -1, 65537, HIGH};
    for (int b : badLight) {
      due("paint l " + b, p.paint(1, 4, 4, b), false);
    }
    int[] none = {LOW, -1, 3, HIGH};
    for (int k : none) {
      due("paint(" + k + ", ..)", p.paint(k, 4, 4, 5), false);
    }
    p.cut(false);
    int[] want = {far, -far, 0, -far, far, 65536, 1, -2, 3};
    for (int i = 0; i < 9; i++) {
      due("painted " + i, p.piece(0, i / 3, 3 + i % 3), want[i]);
    }
    due("paint leaves X", p.piece(0, 1, 0), 128);
  }

  private static void cutByNearSide() {
    PieceCutter p = new PieceCutter(48, 48);
    p.focus(8);
    p.place(0, 0, 0, 4096);
    p.place(1, 1000, 0, 4096);
    p.place(2, 0, 1000, 4096);
    due("z 4096 stays", p.cut(false), 1);
    due("r at 4096", p.piece(0, 0, 2), 1048576);
    for (int k = 0; k < 3; k++) {
      p.place(k, k == 1 ? 1000 : 0, k == 2 ? 1000 : 0, 4095);
    }
    due("z 4095 goes", p.cut(true), 0);
    // One corner of three behind the near side: four corners, two pieces.
    p.place(0, 0, 0, 8192);
    p.place(1, 1000, 0, 8192);
    p.place(2, 0, 1000, 0);
    p.paint(2, 100, 200, 300);
    due("one behind", p.cut(false), 2);
    // Half way from 1 to 2, then half way from 2 to 0.
    due("one behind: piece(0, 2, 0)", p.piece(0, 2, 0), 384 + 128 * 500 / 4096);
    due("one behind: piece(0, 2, 1)", p.piece(0, 2, 1), 384 + 128 * 500 / 4096);
    due("one behind: piece(0, 2, 2)", p.piece(0, 2, 2), 1048576);
    due("one behind: piece(0, 2, 3)", p.piece(0, 2, 3), 50);
    due("one behind: piece(0, 2, 4)", p.piece(0, 2, 4), 100);
    due("one behind: piece(0, 2, 5)", p.piece(0, 2, 5), 150);
    due("one behind: piece(1, 0, 2)", p.piece(1, 0, 2), 524288);
    due("one behind: piece(1, 2, 0)", p.piece(1, 2, 0), 384);
    due("one behind: piece(1, 2, 1)", p.piece(1, 2, 1), 384 + 128 * 500 / 4096);
    // Two behind: the first corner is gone, and the new one after it comes first.
    p.place(1, 1000, 0, 0);
    p.place(0, 0, -1000, 0);
    p.place(2, 0, 1000, 8192);
    due("two behind", p.cut(false), 1);
    due("two behind: piece(0, 0, 0)", p.piece(0, 0, 0), 384 + 128 * 500 / 4096);
    due("two behind: piece(0, 1, 2)", p.piece(0, 1, 2), 524288);
    due("two behind: piece(0, 2, 0)", p.piece(0, 2, 0), 384);
    due("two behind: piece(0, 2, 1)", p.piece(0, 2, 1), 384);
  }

  private static void cutByPictureSides() {
    // Sides lie at -8 * W and 24 * W; a corner right on one stays as it is.
    PieceCutter p = flat(8, new int[] {-64, -64, 192, -64, -64, 192});
    due("on the sides", p.cut(false), 1);
    due("on the sides: area(0)", p.area(0), 256 * 256);
    p = flat(8, new int[] {0, 0, 320, 0, 0, 64});
    due("right of it", p.cut(false), 2);
    due("right of it: piece(0, 1, 0)", p.piece(0, 1, 0), 192);
    due("right of it: piece(1, 1, 0)", p.piece(1, 1, 0), 192);
    p = flat(8, new int[] {0, 0, 64, 0, 0, 320});
    due("below it", p.cut(false), 2);
    due("below it: piece(0, 2, 1)", p.piece(0, 2, 1), 192);
    p = flat(8, new int[] {64, 0, 64, 64, -192, 0});
    due("left of it", p.cut(false), 2);
    due("left of it: piece(0, 2, 0)", p.piece(0, 2, 0), -64);
    p = flat(8, new int[] {0, 64, 0, -192, 64, 64});
    due("above it", p.cut(false), 2);
    due("above it: piece(0, 1, 1)", p.piece(0, 1, 1), -64);
    due("above it: piece(1, 1, 1)", p.piece(1, 1, 1), -64);
    int[][] outside = {
      {-70, 0, -70, 100, -100, 50}, {200, 0, 250, 50, 200, 100},
      {0, -70, 50, -100, 100, -70}, {0, 200, 100, 200, 50, 300}
    };
    for (int[] corners : outside) {
      due("outside", flat(8, corners).cut(true), 0);
    }
  }

  private static void cutRounding() {
    // A new corner's numbers are rounded down, whichever way round the side is crossed.
    PieceCutter p = new PieceCutter(8, 8);
    p.focus(512);
    p.place(0, 0, 0, 4098);
    p.place(1, 10, 0, 4095);
    p.place(2, 0, 20, 4098);
    p.paint(0, 10, -10, 10);
    p.paint(1, 0, 0, 0);
    p.paint(2, 10, -10, 10);
    due("rounding: cut", p.cut(false), 2);
    // From 10 to 0 by 2 / 3: 10 + DIV(-20, 3) = 3; from -10 to 0: -10 + DIV(20, 3) = -4.
    due("rounding: piece(0, 1, 3)", p.piece(0, 1, 3), 3);
    due("rounding: piece(0, 1, 4)", p.piece(0, 1, 4), -4);
    due("rounding: piece(0, 1, 5)", p.piece(0, 1, 5), 3);
    due("rounding: piece(0, 2, 3)", p.piece(0, 2, 3), 3);
    due("rounding: piece(0, 2, 4)", p.piece(0, 2, 4), -4);
    // From 0 to 10 by 2 / 3: DIV(20, 3) = 6.
    due("rounding: piece(0, 1, 0)", p.piece(0, 1, 0), 64 + 16 * 512 * 6 / 4096);
    // From 20 to 0 by 2 / 3: 20 + DIV(-40, 3) = 6; from 0 to 10: DIV(20, 3) = 6.
    due("rounding: piece(0, 2, 1)", p.piece(0, 2, 1), 64 + 16 * 512 * 6 / 4096);
  }

  private static void cutReplaces() {
    PieceCutter p = flat(8, new int[] {0, 0, 320, 0, 0, 64});
    due("replaces: cut", p.cut(false), 2);
    due("replaces: cut again", p.cut(false), 2);
    p.place(1, 64 * 256, -64 * 256, 65536);
    due("replaces: cut fewer", p.cut(false), 1);
    due("replaces: area(1)", p.area(1), -1);
    due("replaces: piece(1, 0, 2)", p.piece(1, 0, 2), 0);
    due("replaces: covered(0, 0)", p.covered(0, 0), 1);
    p.place(1, 0, 0, -1);
    p.place(0, 0, 0, -1);
    p.place(2, 0, 0, -1);
    due("replaces: cut none", p.cut(true), 0);
    due("replaces: area(0)", p.area(0), -1);
    due("replaces: covered(0, 0) again", p.covered(0, 0), 0);
  }

  private static void cutSkipsNothings() {
    due("on a line", flat(8, new int[] {0, 0, 10, 10, 20, 20}).cut(true), 0);
    due("one point", flat(8, new int[] {5, 5, 5, 5, 5, 5}).cut(true), 0);
    due("back to front", flat(8, new int[] {0, 0, 0, 16, 16, 0}).cut(false), 0);
    due("one 16th each way", flat(8, new int[] {0, 0, 1, 0, 0, 1}).cut(false), 1);
    // Corner 0 lies right on a side: it stays, and a new one comes in the same place. The first
    // piece is nothing, and the second one is piece 0.
    PieceCutter p = flat(8, new int[] {192, 0, 320, 64, 0, 128});
    due("second alone: cut", p.cut(false), 1);
    due("second alone: area(0)", p.area(0), 192 * 89);
    due("second alone: piece(0, 1, 1)", p.piece(0, 1, 1), 89);
    due("second alone: piece(0, 2, 0)", p.piece(0, 2, 0), 0);
    due("second alone: area(1)", p.area(1), -1);
  }

  private static void bothTurnsPieces() {
    PieceCutter p = flat(8, new int[] {0, 0, 0, 64, 128, 0});
    p.paint(1, 1, 11, 21);
    p.paint(2, 2, 12, 22);
    due("turned: cut(false)", p.cut(false), 0);
    due("turned: cut(true)", p.cut(true), 1);
    due("turned: area(0)", p.area(0), 64 * 128);
    due("turned: piece(0, 1, 0)", p.piece(0, 1, 0), 128);
    due("turned: piece(0, 1, 1)", p.piece(0, 1, 1), 0);
    due("turned: piece(0, 2, 1)", p.piece(0, 2, 1), 64);
    due("turned: piece(0, 1, 3)", p.piece(0, 1, 3), 2);
    due("turned: piece(0, 2, 4)", p.piece(0, 2, 4), 11);
    due("turned: piece(0, 2, 5)", p.piece(0, 2, 5), 21);
    due("turned: first(0, 0)", p.first(0, 0), 0);
    due("turned: covered(0, 0)", p.covered(0, 0), 1);
    due("turned: cut(false) after both", p.cut(false), 0);
  }

  private static void piece() {
    PieceCutter p = flat(8, new int[] {16, 32, 100, 0, 0, 90});
    p.place(2, -64 * 2 * 256, 26 * 2 * 256, 131072);
    p.paint(0, 1, 2, 3);
    p.paint(1, 4, 5, 6);
    p.paint(2, -7, -8, 9);
    p.cut(false);
    int[] want = {16, 32, 65536, 1, 2, 3, 100, 0, 65536, 4, 5, 6, 0, 90, 32768, -7, -8, 9};
    for (int i = 0; i < 18; i++) {
      due("piece(0, " + i / 6 + ", " + i % 6 + ")", p.piece(0, i / 6, i % 6), want[i]);
    }
    int[] none = {LOW, -1, HIGH};
    for (int b : none) {
      due("piece(" + b + ", 0, 2)", p.piece(b, 0, 2), 0);
      due("piece(0, " + b + ", 2)", p.piece(0, b, 2), 0);
      due("piece(0, 0, " + b + ")", p.piece(0, 0, b), 0);
    }
    due("piece(1, 0, 2)", p.piece(1, 0, 2), 0);
    due("piece(0, 3, 2)", p.piece(0, 3, 2), 0);
    due("piece(0, 0, 6)", p.piece(0, 0, 6), 0);
    // Coordinates below 0 are rounded down: 16 * 16 * -1 / 65536 is -1, not 0.
    p.place(0, -1, -1, 65536);
    p.cut(true);
    due("rounded down X", p.piece(0, 0, 0), 63);
    due("rounded down Y", p.piece(0, 0, 1), 63);
    // r is rounded down: 4294967296 / 65537 = 65535.00002.
    p.place(0, 0, 0, 65537);
    p.cut(true);
    due("rounded down r", p.piece(0, 0, 2), 65535);
  }

  private static void area() {
    PieceCutter p = flat(48, new int[] {-384, -384, 1152, -384, -384, 1152});
    due("area: cut", p.cut(false), 1);
    due("area(0)", p.area(0), 1536 * 1536);
    int[] none = {LOW, -1, 1, 16, 17, 18, HIGH};
    for (int i : none) {
      due("area(" + i + ")", p.area(i), -1);
    }
  }

  private static void firstAndLast() {
    // A slope down to the right, from column 2 on: rows 0 to 3.
    PieceCutter p = flat(8, new int[] {32, 0, 96, 0, 96, 64});
    due("slope: cut", p.cut(false), 1);
    int[] firsts = {2, 3, 4, 5, -1, -1, -1, -1};
    for (int y = 0; y < 8; y++) {
      due("slope: first(0, " + y + ")", p.first(0, y), firsts[y]);
      due("slope: last(0, " + y + ")", p.last(0, y), y < 4 ? 5 : -1);
    }
    int[] none = {LOW, -1, 8, HIGH};
    for (int b : none) {
      due("first(0, " + b + ")", p.first(0, b), -1);
      due("last(0, " + b + ")", p.last(0, b), -1);
      due("first(" + b + ", 0)", p.first(b, 0), -1);
      due("last(" + b + ", 0)", p.last(b, 0), -1);
    }
    due("first(1, 0)", p.first(1, 0), -1);
    due("last(1, 0)", p.last(1, 0), -1);
  }

  private static void picturesEdges() {
    // Twice as wide as the picture: rows and columns outside it are none of its pixels.
    PieceCutter p = flat(8, new int[] {-64, -64, 192, -64, 192, 192});
    p.cut(false);
    due("wide: first(0, 0)", p.first(0, 0), 0);
    due("wide: last(0, 0)", p.last(0, 0), 7);
    due("wide: first(0, 7)", p.first(0, 7), 7);
    due("wide: last(0, 7)", p.last(0, 7), 7);
    due("wide: first(0, 8)", p.first(0, 8), -1);
    due("wide: last(0, 8)", p.last(0, 8), -1);
    due("wide: first(0, -1)", p.first(0, -1), -1);
    due("wide: covered(8, 0)", p.covered(8, 0), -1);
    due("wide: near(0, 8, 0)", p.near(0, 8, 0), -1);
    due("wide: near(0, 7, 7)", p.near(0, 7, 7), 65536);
    due("wide: near(0, 0, -1)", p.near(0, 0, -1), -1);
  }

  private static void sharedEdges() {
    // A square of 64 16ths, corners right on middles, from two triangles: each pixel once.
    PieceCutter upper = flat(8, new int[] {8, 8, 72, 8, 72, 72});
    PieceCutter lower = flat(8, new int[] {8, 8, 72, 72, 8, 72});
    due("square: upper", upper.cut(false), 1);
    due("square: lower", lower.cut(false), 1);
    for (int y = 0; y < 8; y++) {
      for (int x = 0; x < 8; x++) {
        // The left edge goes up (Yb < Ya) and the upper one to the right: they count.
        int want = x < 4 && y < 4 ? 1 : 0;
        due("square " + x + ", " + y, upper.covered(x, y) + lower.covered(x, y), want);
      }
    }
  }

  private static void tieRules() {
    // A middle on an edge counts if the edge goes up, or level to the right.
    PieceCutter p = flat(8, new int[] {8, 8, 72, 8, 8, 72});
    p.cut(false);
    due("tie: level to the right", p.covered(1, 0), 1);
    due("tie: up", p.covered(0, 1), 1);
    due("tie: both", p.covered(0, 0), 1);
    due("tie: down to the left", p.covered(2, 2), 0);
    due("tie: its end", p.covered(4, 0), 0);
    due("tie: its other end", p.covered(0, 4), 0);
    p = flat(8, new int[] {72, 8, 72, 72, 8, 72});
    p.cut(false);
    due("tie: up to the right", p.covered(2, 2), 1);
    due("tie: level to the left", p.covered(3, 4), 0);
    due("tie: down", p.covered(4, 2), 0);
  }

  /** Corner 1 at half, corner 2 at a quarter of corner 0's distance: r 262144, 524288, 1048576. */
  private static PieceCutter slanted() {
    PieceCutter p = new PieceCutter(16, 16);
    p.focus(16);
    p.place(0, -8192, -8192, 16384);
    p.place(1, 4096, -4096, 8192);
    p.place(2, -2048, 2048, 4096);
    p.paint(0, 1000, -1000, 0);
    p.paint(1, 2000, 3000, 65536);
    p.paint(2, -4000, 500, 100);
    due("slanted: cut", p.cut(false), 1);
    due("slanted: area(0)", p.area(0), 256 * 256);
    return p;
  }

  private static void near() {
    PieceCutter p = slanted();
    // At 8, 8 (pixel 0, 0): w1 = w2 = 8 * 256 = 2048, w0 = 65536 - 4096 = 61440.
    // n = (61440 * 262144 + 2048 * 524288 + 2048 * 1048576) / 65536 = 294912.
    due("slanted: near(0, 0, 0)", p.near(0, 0, 0), 294912);
    // At 56, 24 (pixel 3, 1): w1 = 14336, w2 = 6144, w0 = 45056.
    due("slanted: near(0, 3, 1)", p.near(0, 3, 1), 393216);
    due("slanted: near(0, 15, 15)", p.near(0, 15, 15), -1);
    int[] none = {LOW, -1, 16, HIGH};
    for (int b : none) {
      due("near(" + b + ", 0, 0)", p.near(b, 0, 0), -1);
      due("near(0, " + b + ", 0)", p.near(0, b, 0), -1);
      due("near(0, 0, " + b + ")", p.near(0, 0, b), -1);
    }
    due("near(1, 0, 0)", p.near(1, 0, 0), -1);
  }

  private static void number() {
    PieceCutter p = slanted();
    int[] none = {LOW, -1, 16, HIGH};
    for (int b : none) {
      due("number(" + b + ", 0, 0, 0)", p.number(b, 0, 0, 0), 0);
      due("number(0, " + b + ", 0, 0)", p.number(0, b, 0, 0), 0);
      due("number(0, 0, " + b + ", 0)", p.number(0, 0, b, 0), 0);
      due("number(0, 0, 0, " + b + ")", p.number(0, 0, 0, b), 0);
    }
    due("number(0, 0, 0, 3)", p.number(0, 0, 0, 3), 0);
    due("number(1, 0, 0, 0)", p.number(1, 0, 0, 0), 0);
    due("number(0, 15, 15, 0)", p.number(0, 15, 15, 0), 0);
    // The same number at all corners is that number everywhere, at the bounds too.
    for (int k = 0; k < 3; k++) {
      p.paint(k, -131072, 131072, 65536);
    }
    p.cut(false);
    due("even: number(0, 3, 1, 0)", p.number(0, 3, 1, 0), -131072);
    due("even: number(0, 3, 1, 1)", p.number(0, 3, 1, 1), 131072);
    due("even: number(0, 3, 1, 2)", p.number(0, 3, 1, 2), 65536);
  }

  private static void numberFromWhereOneStands() {
    PieceCutter p = slanted();
    // At pixel 3, 1 the weights w * r are, in parts of 262144 * 2048: 22, 14, 12, together 48.
    due("slanted: u", p.number(0, 3, 1, 0), Math.floorDiv(22 * 1000 + 14 * 2000 - 12 * 4000, 48));
    due("slanted: v", p.number(0, 3, 1, 1), Math.floorDiv(-22 * 1000 + 14 * 3000 + 12 * 500, 48));
    due("slanted: l", p.number(0, 3, 1, 2), Math.floorDiv(14 * 65536 + 12 * 100, 48));
    // Rounded down below 0 too: at pixel 0, 8 the parts are 14, 2 and 68, of 84.
    due("slanted: u below 0", p.number(0, 0, 8, 0), Math.floorDiv(14 * 1000 + 2 * 2000 - 68 * 4000, 84));
  }

  private static void covered() {
    // A pixel of two pieces is only in one of them, for their common edge is one's alone.
    PieceCutter p = flat(8, new int[] {8, 8, 320, 8, 8, 320});
    due("covered: cut", p.cut(false), 3);
    for (int y = 0; y < 8; y++) {
      for (int x = 0; x < 8; x++) {
        due("covered(" + x + ", " + y + ")", p.covered(x, y), 1);
      }
    }
    int[] none = {LOW, -1, 8, HIGH};
    for (int b : none) {
      due("covered(" + b + ", 0)", p.covered(b, 0), -1);
      due("covered(0, " + b + ")", p.covered(0, b), -1);
    }
  }
}
