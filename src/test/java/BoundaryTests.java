/**
 * The boundary cases that the document's promises name, a test for each sentence, on both sides of
 * the boundary. Those of its "Terms" are in TermTests, what follows a refused call in RefusedTests.
 */
public final class BoundaryTests {
  private static final int LOW = Integer.MIN_VALUE;
  private static final int HIGH = Integer.MAX_VALUE;
  private static int wrong = 0;

  public static void main(String[] args) {
    sizeOfPicture();
    sizeSeenOnPicture();
    noPiecesAtFirst();
    notBothAtFirst();
    focusBounds();
    focusLeavesPieces();
    placeWhichCorner();
    paintWhichCorner();
    placeAndPaintLeavePieces();
    cutInPlaceOfPieces();
    bothIsForOneCut();
    pieceNoneSuch();
    areaNone();
    firstAndLastRows();
    firstAndLastColumns();
    firstAndLastOfNothing();
    nearNoneSuch();
    nearOfNothing();
    numberNoneSuch();
    numberOfWhichPiece();
    coveredNoPixel();
    coveredByHowMany();
    lastOfManyCalls();
    System.out.println(wrong == 0 ? "all answers are as due" : wrong + " answers are not as due");
    if (wrong != 0) {
      System.exit(1);
    }
  }

  private static void due(String call, long got, long want) {
    if (got != want) {
      wrong++;
      System.out.println(call + " answered " + got + ", due is " + want);
    }
  }

  private static void due(String call, boolean got, boolean want) {
    due(call, got ? 1 : 0, want ? 1 : 0);
  }

  /** At focus 16 and z 65536, 256 units are a 16th of a pixel. */
  private static void placeFlat(PieceCutter p, int w, int h, int... sixteenths) {
    p.focus(16);
    for (int k = 0; k < 3; k++) {
      int x = (sixteenths[2 * k] - 8 * w) * 256;
      int y = (sixteenths[2 * k + 1] - 8 * h) * 256;
      due("placeFlat", p.place(k, x, y, 65536), true);
    }
  }

  private static PieceCutter flat(int w, int h, int... sixteenths) {
    PieceCutter p = new PieceCutter(w, h);
    placeFlat(p, w, h, sixteenths);
    return p;
  }

  /** Corners 0, 0; 192, 0; 192, 32; 0, 64: one that was at 384, 0 is cut off at 192. */
  private static PieceCutter twoPieces() {
    PieceCutter p = flat(8, 8, 0, 0, 384, 0, 0, 64);
    for (int k = 0; k < 3; k++) {
      p.paint(k, 10 + k, 20 + k, 30 + k);
    }
    due("twoPieces: cut", p.cut(false), 2);
    return p;
  }

  private static void dueNoPiece(String when, PieceCutter p, int i) {
    due(when + ": area(" + i + ")", p.area(i), -1);
    for (int c = 0; c < 3; c++) {
      for (int what = 0; what < 6; what++) {
        due(when + ": piece(" + i + ", " + c + ", " + what + ")", p.piece(i, c, what), 0);
      }
    }
    for (int y = 0; y < 8; y++) {
      due(when + ": first(" + i + ", " + y + ")", p.first(i, y), -1);
      due(when + ": last(" + i + ", " + y + ")", p.last(i, y), -1);
      due(when + ": near(" + i + ", 0, " + y + ")", p.near(i, 0, y), -1);
      for (int what = 0; what < 3; what++) {
        due(when + ": number(" + i + ", 0, " + y + ")", p.number(i, 0, y, what), 0);
      }
    }
  }

  // -- Promise 1

  private static final int[] ASKED = {LOW, -8, -1, 0, 1, 7, 8, 9, 47, 48, 49, 64, HIGH};
  private static final int[] GOT = {8, 8, 8, 8, 8, 8, 8, 9, 47, 48, 48, 48, 48};

  private static void sizeOfPicture() {
    for (int a = 0; a < ASKED.length; a++) {
      for (int b = 0; b < ASKED.length; b++) {
        PieceCutter p = new PieceCutter(ASKED[a], ASKED[b]);
        String call = "PieceCutter(" + ASKED[a] + ", " + ASKED[b] + ")";
        due(call + ": last pixel", p.covered(GOT[a] - 1, GOT[b] - 1), 0);
        due(call + ": one column more", p.covered(GOT[a], GOT[b] - 1), -1);
        due(call + ": one row more", p.covered(GOT[a] - 1, GOT[b]), -1);
      }
    }
  }

  /** The middle is at 8 * W, 8 * H, and the window reaches 16 * W, 16 * H from it. */
  private static void sizeSeenOnPicture() {
    for (int n = 0; n < ASKED.length; n++) {
      int size = GOT[n];
      PieceCutter p = new PieceCutter(ASKED[n], ASKED[n]);
      placeFlat(p, size, size, 8 * size, 8 * size, 24 * size, 8 * size, 8 * size, 24 * size);
      due("size " + ASKED[n] + ": cut", p.cut(false), 1);
      due("size " + ASKED[n] + ": X0", p.piece(0, 0, 0), 8 * size);
      due("size " + ASKED[n] + ": Y0", p.piece(0, 0, 1), 8 * size);
      due("size " + ASKED[n] + ": area", p.area(0), 256 * size * size);
      placeFlat(p, size, size, 8 * size, 8 * size, 24 * size + 1, 8 * size, 8 * size, 24 * size);
      p.cut(false);
      due("size " + ASKED[n] + ", too far: X", p.piece(0, 1, 0), 24 * size);
      placeFlat(p, size, size, 8 * size, 8 * size, 24 * size, 8 * size, 8 * size, 24 * size + 1);
      int count = p.cut(false);
      due("size " + ASKED[n] + ", too far: Y", p.piece(count - 1, 2, 1), 24 * size);
    }
    // Width and height are each for itself.
    PieceCutter p = flat(8, 48, 0, 0, 128, 0, 0, 768);
    due("8 x 48: cut", p.cut(false), 1);
    due("8 x 48: area(0)", p.area(0), 128 * 768);
    p = flat(48, 8, 0, 0, 768, 0, 0, 128);
    due("48 x 8: cut", p.cut(false), 1);
    due("48 x 8: area(0)", p.area(0), 128 * 768);
  }

  private static void noPiecesAtFirst() {
    PieceCutter p = new PieceCutter(8, 8);
    dueNoPiece("new", p, -1);
    dueNoPiece("new", p, 0);
    dueNoPiece("new", p, 1);
    p = new PieceCutter(8, 8);
    for (int y = 0; y < 8; y++) {
      for (int x = 0; x < 8; x++) {
        due("new: covered(" + x + ", " + y + ")", p.covered(x, y), 0);
      }
    }
    // Corners placed and painted are no pieces yet.
    p = flat(8, 8, 0, 0, 128, 0, 0, 128);
    due("not cut yet: area(0)", p.area(0), -1);
    due("not cut yet: covered(0, 0)", p.covered(0, 0), 0);
  }

  private static void notBothAtFirst() {
    PieceCutter p = flat(8, 8, 0, 0, 0, 128, 128, 0);
    due("not both at first: cut(false)", p.cut(false), 0);
    due("both: cut(true)", p.cut(true), 1);
  }

  // -- Promise 2

  private static void focusBounds() {
    int[] asked = {LOW, -1, 0, 7, 8, 512, 513, HIGH};
    for (int f : asked) {
      PieceCutter p = new PieceCutter(8, 8);
      boolean good = f == 8 || f == 512;
      due("focus(" + f + ")", p.focus(f), good);
      due("focus(" + f + ") again", p.focus(f), good);
    }
  }

  private static void focusLeavesPieces() {
    int[] asked = {8, 16, 512, 7, 513};
    for (int f : asked) {
      PieceCutter p = twoPieces();
      p.focus(f);
      due("focus(" + f + ") later: area(0)", p.area(0), 192 * 32);
      due("focus(" + f + ") later: area(1)", p.area(1), 192 * 64);
      due("focus(" + f + ") later: area(2)", p.area(2), -1);
      due("focus(" + f + ") later: piece(1, 1, 0)", p.piece(1, 1, 0), 192);
      due("focus(" + f + ") later: piece(1, 1, 1)", p.piece(1, 1, 1), 32);
      due("focus(" + f + ") later: last(0, 0)", p.last(0, 0), 7);
      due("focus(" + f + ") later: near(0, 7, 0)", p.near(0, 7, 0), 65536);
    }
    // The next cut is made with it: half the focus, half the way from the middle.
    PieceCutter p = flat(8, 8, 0, 0, 128, 0, 0, 128);
    p.cut(false);
    p.focus(8);
    due("focus 8: cut", p.cut(false), 1);
    due("focus 8: area(0)", p.area(0), 64 * 64);
    due("focus 8: piece(0, 0, 0)", p.piece(0, 0, 0), 32);
  }

  // -- Promises 3 and 4

  private static void placeWhichCorner() {
    int[] none = {LOW, -3, -2, -1, 3, 4, 5, HIGH};
    PieceCutter p = new PieceCutter(8, 8);
    for (int k : none) {
      due("place(" + k + ")", p.place(k, 0, 0, 65536), false);
    }
    for (int k = 0; k < 3; k++) {
      // Only the corner told is placed, twice as far away as the others.
      placeFlat(p, 8, 8, 0, 0, 64, 0, 0, 64);
      due("place(" + k + ")", p.place(k, (10 - 64) * 512, (20 - 64) * 512, 131072), true);
      due("place(" + k + "): cut", p.cut(false), 1);
      int[] x = {0, 64, 0};
      int[] y = {0, 0, 64};
      for (int c = 0; c < 3; c++) {
        due("place(" + k + "): X" + c, p.piece(0, c, 0), c == k ? 10 : x[c]);
        due("place(" + k + "): Y" + c, p.piece(0, c, 1), c == k ? 20 : y[c]);
        due("place(" + k + "): r" + c, p.piece(0, c, 2), c == k ? 32768 : 65536);
      }
    }
  }

  private static void paintWhichCorner() {
    int[] none = {LOW, -3, -2, -1, 3, 4, 5, HIGH};
    for (int k = 0; k < 3; k++) {
      PieceCutter p = flat(8, 8, 0, 0, 128, 0, 0, 128);
      for (int bad : none) {
        due("paint(" + bad + ")", p.paint(bad, 1, 1, 1), false);
      }
      due("paint(" + k + ")", p.paint(k, 7, 8, 9), true);
      p.cut(false);
      for (int c = 0; c < 3; c++) {
        for (int what = 3; what < 6; what++) {
          due("painted " + k, p.piece(0, c, what), c == k ? what + 4 : 0);
        }
      }
    }
  }

  private static void placeAndPaintLeavePieces() {
    PieceCutter p = twoPieces();
    for (int k = 0; k < 3; k++) {
      due("place later", p.place(k, 1, 2, 3), true);
      due("paint later", p.paint(k, 4, 5, 6), true);
    }
    due("later: area(0)", p.area(0), 192 * 32);
    due("later: area(1)", p.area(1), 192 * 64);
    due("later: piece(0, 0, 0)", p.piece(0, 0, 0), 0);
    due("later: piece(0, 1, 0)", p.piece(0, 1, 0), 192);
    due("later: piece(0, 0, 3)", p.piece(0, 0, 3), 10);
    due("later: piece(1, 2, 5)", p.piece(1, 2, 5), 32);
    due("later: covered(0, 0)", p.covered(0, 0), 1);
    due("later: number(1, 0, 2, 1)", p.number(1, 0, 2, 1), 21);
    due("then cut", p.cut(true), 0);
    dueNoPiece("then cut", p, 0);
  }

  // -- Promise 5

  private static void cutInPlaceOfPieces() {
    PieceCutter p = new PieceCutter(8, 8);
    due("0 pieces", p.cut(false), 0);
    placeFlat(p, 8, 8, 8, 8, 320, 8, 8, 320);
    due("3 pieces", p.cut(false), 3);
    due("3 pieces: area(2)", p.area(2) > 0, true);
    due("3 pieces: area(3)", p.area(3), -1);
    due("3 pieces again", p.cut(false), 3);
    due("3 pieces again: area(3)", p.area(3), -1);
    placeFlat(p, 8, 8, 0, 0, 384, 0, 0, 64);
    due("2 pieces", p.cut(false), 2);
    due("2 pieces: area(0)", p.area(0), 192 * 32);
    due("2 pieces: area(1)", p.area(1), 192 * 64);
    dueNoPiece("2 pieces", p, 2);
    placeFlat(p, 8, 8, 0, 0, 128, 0, 0, 128);
    due("1 piece", p.cut(false), 1);
    due("1 piece: area(0)", p.area(0), 128 * 128);
    dueNoPiece("1 piece", p, 1);
    p.place(0, 0, 0, 0);
    p.place(1, 0, 0, 0);
    p.place(2, 0, 0, 0);
    due("none", p.cut(false), 0);
    dueNoPiece("none", p, 0);
    due("none: covered(0, 0)", p.covered(0, 0), 0);
    placeFlat(p, 8, 8, 8, 8, 320, 8, 8, 320);
    due("3 pieces at last", p.cut(true), 3);
    due("3 pieces at last: covered(7, 7)", p.covered(7, 7), 1);
  }

  private static void bothIsForOneCut() {
    PieceCutter p = flat(8, 8, 0, 0, 0, 128, 128, 0);
    due("turned: cut(true)", p.cut(true), 1);
    due("turned: cut(false)", p.cut(false), 0);
    due("turned: area(0)", p.area(0), -1);
    due("turned: covered(0, 0)", p.covered(0, 0), 0);
    due("turned: cut(true) again", p.cut(true), 1);
    due("turned: covered(0, 0) again", p.covered(0, 0), 1);
  }

  // -- Promise 6

  private static void pieceNoneSuch() {
    PieceCutter p = twoPieces();
    due("piece(0, 0, 5)", p.piece(0, 0, 5), 30);
    due("piece(0, 2, 0)", p.piece(0, 2, 0), 192);
    due("piece(1, 0, 2)", p.piece(1, 0, 2), 65536);
    due("piece(1, 2, 0)", p.piece(1, 2, 0), 0);
    due("piece(1, 2, 1)", p.piece(1, 2, 1), 64);
    due("piece(1, 2, 5)", p.piece(1, 2, 5), 32);
    int[] noPiece = {LOW, -2, -1, 2, 3, 17, HIGH};
    for (int i : noPiece) {
      for (int c = -1; c < 4; c++) {
        for (int what = -1; what < 7; what++) {
          due("piece(" + i + ", " + c + ", " + what + ")", p.piece(i, c, what), 0);
        }
      }
    }
    p = twoPieces();
    int[] noCorner = {LOW, -2, -1, 3, 4, 6, HIGH};
    int[] noNumber = {LOW, -3, -2, -1, 6, 7, 12, HIGH};
    for (int i = 0; i < 2; i++) {
      for (int c : noCorner) {
        due("piece(" + i + ", " + c + ", 2)", p.piece(i, c, 2), 0);
        due("piece(" + i + ", " + c + ", 5)", p.piece(i, c, 5), 0);
      }
      for (int what : noNumber) {
        for (int c = 0; c < 3; c++) {
          due("piece(" + i + ", " + c + ", " + what + ")", p.piece(i, c, what), 0);
        }
      }
    }
  }

  // -- Promise 7

  private static void areaNone() {
    PieceCutter p = twoPieces();
    due("area(0)", p.area(0), 192 * 32);
    due("area(1)", p.area(1), 192 * 64);
    int[] none = {LOW, -2, -1, 2, 3, 16, 17, 18, 19, HIGH};
    for (int i : none) {
      due("area(" + i + ")", p.area(i), -1);
    }
  }

  // -- Promises 8 and 9

  /**
   * In a picture of 16 x 8, a piece that reaches beyond it above, below and at both sides. At the
   * middles of row 0, Y 8, it goes from X -56 to 312, at those of row 7, Y 120, from 56 to 200.
   */
  private static PieceCutter beyond() {
    PieceCutter p = flat(16, 8, -128, -64, 384, -64, 128, 192);
    for (int k = 0; k < 3; k++) {
      p.paint(k, 131072, -131072, 65536);
    }
    due("beyond: cut", p.cut(false), 1);
    return p;
  }

  private static void firstAndLastRows() {
    PieceCutter p = beyond();
    int[] none = {LOW, -16, -2, -1, 8, 9, 15, 16, HIGH};
    for (int y : none) {
      due("first(0, " + y + ")", p.first(0, y), -1);
      due("last(0, " + y + ")", p.last(0, y), -1);
    }
    due("first(0, 0)", p.first(0, 0), 0);
    due("last(0, 0)", p.last(0, 0), 15);
    // Just at the middles of 3 and 12: the edge that goes up has it, the other one has not.
    due("first(0, 7)", p.first(0, 7), 3);
    due("last(0, 7)", p.last(0, 7), 11);
    int[] noPiece = {LOW, -1, 1, 2, HIGH};
    for (int i : noPiece) {
      due("first(" + i + ", 0)", p.first(i, 0), -1);
      due("last(" + i + ", 0)", p.last(i, 0), -1);
    }
    // A picture that is higher than wide. At the middles of row 15, Y 248, it is X 30 to 98.
    p = flat(8, 16, -64, -128, 192, -128, 64, 384);
    due("high: cut", p.cut(false), 1);
    due("high: first(0, 8)", p.first(0, 8), 0);
    due("high: last(0, 8)", p.last(0, 8), 7);
    due("high: first(0, 15)", p.first(0, 15), 2);
    due("high: last(0, 15)", p.last(0, 15), 5);
    due("high: first(0, 16)", p.first(0, 16), -1);
    due("high: last(0, 16)", p.last(0, 16), -1);
  }

  private static void firstAndLastColumns() {
    // A box's left half: edges just at the middles of columns 2 and 5, rows 1 and 6.
    PieceCutter p = flat(8, 8, 40, 24, 88, 24, 40, 104);
    due("columns: cut", p.cut(false), 1);
    due("first(0, 0)", p.first(0, 0), -1);
    due("last(0, 0)", p.last(0, 0), -1);
    due("first(0, 1)", p.first(0, 1), 2);
    // The corner at 88, 24 is on the edge that goes down: column 5 is none of its.
    due("last(0, 1)", p.last(0, 1), 4);
    due("first(0, 5)", p.first(0, 5), 2);
    due("last(0, 5)", p.last(0, 5), 2);
    due("first(0, 6)", p.first(0, 6), -1);
    due("last(0, 6)", p.last(0, 6), -1);
    // The first and the last column there are, each alone.
    p = flat(8, 8, 0, 0, 9, 0, 0, 128);
    p.cut(false);
    due("column 0: first(0, 0)", p.first(0, 0), 0);
    due("column 0: last(0, 0)", p.last(0, 0), 0);
    due("column 0: first(0, 1)", p.first(0, 1), -1);
    p = flat(8, 8, 119, 0, 128, 0, 128, 128);
    p.cut(false);
    due("column 7: first(0, 0)", p.first(0, 0), 7);
    due("column 7: last(0, 0)", p.last(0, 0), 7);
    // Columns beyond the picture's height.
    p = flat(48, 8, 700, 0, 768, 0, 700, 128);
    p.cut(false);
    due("column 44: first(0, 0)", p.first(0, 0), 44);
    due("column 47: last(0, 0)", p.last(0, 0), 47);
    // Beyond the last column: none of the picture's pixels.
    p = flat(8, 8, 128, 0, 192, 0, 128, 128);
    due("column 8: cut", p.cut(false), 1);
    for (int y = 0; y < 8; y++) {
      due("column 8: first(0, " + y + ")", p.first(0, y), -1);
      due("column 8: last(0, " + y + ")", p.last(0, y), -1);
    }
  }

  private static void firstAndLastOfNothing() {
    // Between the middles: it covers none, in any row.
    PieceCutter p = flat(8, 8, 9, 9, 23, 9, 9, 23);
    due("between: cut", p.cut(false), 1);
    for (int y = -1; y < 9; y++) {
      due("between: first(0, " + y + ")", p.first(0, y), -1);
      due("between: last(0, " + y + ")", p.last(0, y), -1);
    }
    // A 16th up and to the left it has one, for its corner is at the middle of 0, 0.
    p = flat(8, 8, 8, 8, 22, 8, 8, 22);
    p.cut(false);
    due("at a middle: first(0, 0)", p.first(0, 0), 0);
    due("at a middle: last(0, 0)", p.last(0, 0), 0);
    due("at a middle: first(0, 1)", p.first(0, 1), -1);
    due("at a middle: last(0, 1)", p.last(0, 1), -1);
  }

  // -- Promise 10

  private static final int[] NO_COLUMN = {LOW, -2, -1, 16, 17, HIGH};
  private static final int[] NO_ROW = {LOW, -2, -1, 8, 9, 15, HIGH};
  private static final int[] NO_PIECE = {LOW, -2, -1, 1, 2, HIGH};

  private static void nearNoneSuch() {
    PieceCutter p = beyond();
    due("near(0, 0, 0)", p.near(0, 0, 0), 65536);
    due("near(0, 15, 0)", p.near(0, 15, 0), 65536);
    due("near(0, 8, 7)", p.near(0, 8, 7), 65536);
    for (int x : NO_COLUMN) {
      due("near(0, " + x + ", 0)", p.near(0, x, 0), -1);
    }
    for (int y : NO_ROW) {
      due("near(0, 8, " + y + ")", p.near(0, 8, y), -1);
    }
    for (int i : NO_PIECE) {
      due("near(" + i + ", 0, 0)", p.near(i, 0, 0), -1);
    }
    due("near(-1, -1, -1)", p.near(-1, -1, -1), -1);
    due("near(0, 2, 7)", p.near(0, 2, 7), -1);
    due("near(0, 3, 7)", p.near(0, 3, 7), 65536);
    due("near(0, 11, 7)", p.near(0, 11, 7), 65536);
    due("near(0, 12, 7)", p.near(0, 12, 7), -1);
  }

  private static void nearOfNothing() {
    // The slope goes through the middles of 7, 0 to 0, 7: those are not covered.
    PieceCutter p = flat(8, 8, 0, 0, 128, 0, 0, 128);
    p.cut(false);
    for (int x = 0; x < 8; x++) {
      due("on the slope: near(0, " + x + ", " + (7 - x) + ")", p.near(0, x, 7 - x), -1);
      if (x < 7) {
        due("above it: near(0, " + x + ", " + (6 - x) + ")", p.near(0, x, 6 - x), 65536);
      }
    }
    due("beyond it: near(0, 7, 7)", p.near(0, 7, 7), -1);
    // A pixel of the other piece is none of this one's.
    p = twoPieces();
    due("two: near(0, 0, 2)", p.near(0, 0, 2), -1);
    due("two: near(1, 0, 2)", p.near(1, 0, 2), 65536);
    due("two: near(0, 7, 0)", p.near(0, 7, 0), 65536);
    due("two: near(1, 7, 0)", p.near(1, 7, 0), -1);
  }

  // -- Promise 11

  private static void numberNoneSuch() {
    PieceCutter p = beyond();
    int[] want = {131072, -131072, 65536};
    for (int what = 0; what < 3; what++) {
      due("number(0, 0, 0, " + what + ")", p.number(0, 0, 0, what), want[what]);
      due("number(0, 15, 0, " + what + ")", p.number(0, 15, 0, what), want[what]);
      due("number(0, 8, 7, " + what + ")", p.number(0, 8, 7, what), want[what]);
      for (int x : NO_COLUMN) {
        due("number(0, " + x + ", 0, " + what + ")", p.number(0, x, 0, what), 0);
      }
      for (int y : NO_ROW) {
        due("number(0, 8, " + y + ", " + what + ")", p.number(0, 8, y, what), 0);
      }
      for (int i : NO_PIECE) {
        due("number(" + i + ", 0, 0, " + what + ")", p.number(i, 0, 0, what), 0);
      }
      due("number(0, 2, 7, " + what + ")", p.number(0, 2, 7, what), 0);
      due("number(0, 3, 7, " + what + ")", p.number(0, 3, 7, what), want[what]);
      due("number(0, 11, 7, " + what + ")", p.number(0, 11, 7, what), want[what]);
      due("number(0, 12, 7, " + what + ")", p.number(0, 12, 7, what), 0);
    }
    int[] noNumber = {LOW, -4, -3, -2, -1, 3, 4, 5, 6, HIGH};
    for (int what : noNumber) {
      due("number(0, 0, 0, " + what + ")", p.number(0, 0, 0, what), 0);
    }
  }

  private static void numberOfWhichPiece() {
    PieceCutter p = twoPieces();
    // l is 30 at corner 0, DIV(30.5) = 30 at 192, 0, and 31 at 192, 32; 32 at 0, 64.
    due("two: number(0, 0, 2, 2)", p.number(0, 0, 2, 2), 0);
    due("two: number(1, 0, 2, 2)", p.number(1, 0, 2, 2), 31);
    due("two: number(0, 7, 0, 2)", p.number(0, 7, 0, 2), 30);
    due("two: number(1, 7, 0, 2)", p.number(1, 7, 0, 2), 0);
  }

  // -- Promise 12

  private static void coveredNoPixel() {
    PieceCutter p = beyond();
    due("covered(0, 0)", p.covered(0, 0), 1);
    due("covered(15, 0)", p.covered(15, 0), 1);
    due("covered(8, 7)", p.covered(8, 7), 1);
    due("covered(0, 7)", p.covered(0, 7), 0);
    due("covered(15, 7)", p.covered(15, 7), 0);
    for (int x : NO_COLUMN) {
      due("covered(" + x + ", 0)", p.covered(x, 0), -1);
      due("covered(" + x + ", 7)", p.covered(x, 7), -1);
      due("covered(" + x + ", 8)", p.covered(x, 8), -1);
    }
    for (int y : NO_ROW) {
      due("covered(8, " + y + ")", p.covered(8, y), -1);
      due("covered(15, " + y + ")", p.covered(15, y), -1);
    }
  }

  private static void coveredByHowMany() {
    // Each pixel above the slope is in one piece or the other, and those below it in none.
    PieceCutter p = twoPieces();
    for (int y = 0; y < 8; y++) {
      for (int x = 0; x < 8; x++) {
        int first = p.near(0, x, y) == -1 ? 0 : 1;
        int second = p.near(1, x, y) == -1 ? 0 : 1;
        due("two: covered(" + x + ", " + y + ")", p.covered(x, y), first + second);
      }
    }
    due("two: covered(0, 3)", p.covered(0, 3), 1);
    due("two: covered(0, 4)", p.covered(0, 4), 0);
    // Lying over one another, as rounding leaves them: 0, 1 and 2.
    p = new PieceCutter(48, 48);
    p.focus(434);
    p.place(0, -479, -455, 4304);
    p.place(1, -462, -460, 4171);
    p.place(2, 458, 441, 4096);
    p.cut(true);
    due("over one another: covered(33, 32)", p.covered(33, 32), 2);
    due("over one another: covered(0, 47)", p.covered(0, 47), 0);
    due("over one another: near(0, 33, 32)", p.near(0, 33, 32) > 0, true);
    due("over one another: near(1, 33, 32)", p.near(1, 33, 32) > 0, true);
    p.cut(false);
    due("one of them: covered(33, 32)", p.covered(33, 32), 1);
    // Of ten corners' pieces three, one of them turned: 45, 1 is in 0, 1 and 2.
    p = new PieceCutter(48, 33);
    p.focus(507);
    p.place(0, -388, 267, 4099);
    p.place(1, 2348444, -2291571, -14826317);
    p.place(2, -11105, 12339, 106876);
    due("three: cut(true)", p.cut(true), 7);
    due("three: covered(44, 1)", p.covered(44, 1), 0);
    due("three: covered(45, 1)", p.covered(45, 1), 3);
    due("three: covered(46, 1)", p.covered(46, 1), 1);
    for (int i = 0; i < 7; i++) {
      due("three: near(" + i + ", 45, 1)", p.near(i, 45, 1) > 0, i < 3);
    }
    due("two of the three: cut(false)", p.cut(false), 5);
    due("two of the three: covered(45, 1)", p.covered(45, 1), 2);
  }

  // -- What it is: at most 512 calls

  private static void lastOfManyCalls() {
    PieceCutter p = new PieceCutter(48, 48);
    int calls = 0;
    while (calls < 500) {
      due("call " + calls, p.cut(true), 0);
      calls++;
    }
    due("call 501", p.focus(16), true);
    due("call 502", p.place(0, -384 * 256, -384 * 256, 65536), true);
    due("call 503", p.place(1, 384 * 256, -384 * 256, 65536), true);
    due("call 504", p.place(2, -384 * 256, 384 * 256, 65536), true);
    due("call 505", p.paint(0, 5, 6, 7), true);
    due("call 506", p.cut(false), 1);
    due("call 507", p.area(0), 768 * 768);
    due("call 508", p.piece(0, 0, 4), 6);
    due("call 509", p.last(0, 0), 46);
    due("call 510", p.near(0, 46, 0), 65536);
    due("call 511", p.number(0, 0, 0, 2), 6);
    due("call 512", p.covered(47, 0), 0);
  }
}
