/** Promises 26 to 29: words, all, placed, order. */
public final class SqueezedTest {
  private static final int UNKNOWN = SlicedRows.UNKNOWN, OUTSIDE = SlicedRows.OUTSIDE, STATE = SlicedRows.STATE;
  private static final Due due = new Due("SqueezedTest");
  /** 0, 1, 2, 3. */
  private static final int PLAIN = 27;

  public static void main(String[] args) {
    words();
    wordsOfFills();
    all();
    placed();
    placedTurning();
    runsAreCountedThroughTheTable();
    order();
    orderOfLikeOnes();
    due.end();
  }

  private static void words() {
    SlicedRows x = new SlicedRows();
    due.is("empty: a FILL and the short last", x.words(0, 0, PLAIN, false), 2);
    due.is("column", x.words(4, 0, PLAIN, false), UNKNOWN);
    due.is("column", x.words(-1, 0, PLAIN, false), UNKNOWN);
    due.is("v", x.words(0, 16, 0, false), UNKNOWN);
    due.is("v", x.words(0, -1, PLAIN, false), UNKNOWN);
    for (int order : new int[] {-1, 0, 26, 28, 255, 256, 256 + PLAIN, Integer.MIN_VALUE, Integer.MAX_VALUE}) {
      due.is("order " + order, x.words(0, 0, order, true), OUTSIDE);
    }
    x.row(0, 0, 0, 0);
    due.is("one group, FILLS, the last", x.words(0, 0, PLAIN, false), 3);
    x.tear(0, 0);
    due.is("TORN or not", x.words(0, 0, PLAIN, false), 3);
  }

  private static void wordsOfFills() {
    SlicedRows x = new SlicedRows();
    for (int i = 0; i < 7; i++) x.row(0, 1, 0, 0);
    due.is("ones, zeros, last", x.words(0, 0, PLAIN, false), 3);
    for (int i = 0; i < 7; i++) x.row(0, 2, 0, 0);
    due.is("ones of two groups, zeros, last", x.words(0, 0, PLAIN, false), 3);
    due.is("ones, zeros, last", x.words(1, 1, PLAIN, false), 3);
    due.is("zeros, ones, zeros, last", x.words(1, 2, PLAIN, false), 4);
    x.row(0, 1, 0, 0);
    due.is("ones, a group, zeros, last", x.words(0, 0, PLAIN, false), 4);
    due.is("ones, a group, zeros, last", x.words(1, 1, PLAIN, false), 4);
    due.is("1 behind: by column 1 a group in the midst", x.words(1, 2, 75, false), 5);
    x.fill(5, 64);
    for (int line = 15; line < 63; line++) x.set(line, 0, 0);
    x.set(63, 0, 1);
    due.is("63 ones and a 0", x.words(0, 0, PLAIN, false), 2);
    due.is("63 zeros and a 1", x.words(0, 1, PLAIN, false), 2);
    x.set(63, 0, 0);
    due.is("64 ones: the short last stands alone", x.words(0, 0, PLAIN, false), 2);
  }

  private static void all() {
    SlicedRows x = new SlicedRows();
    due.is("empty", x.all(PLAIN, false), 2 * 64);
    due.is("order", x.all(26, false), OUTSIDE);
    due.is("order", x.all(-1, true), OUTSIDE);
    x.fill(77, 40);
    for (int turn = 0; turn <= 1; turn++) {
      int sum = 0;
      for (int column = 0; column < 4; column++) {
        for (int v = 0; v < 16; v++) sum += x.words(column, v, 228, turn == 1);
      }
      due.is("all of " + turn, x.all(228, turn == 1), sum);
    }
    int before = x.all(PLAIN, true);
    x.tear(0, 1);
    due.is("TORN or not", x.all(PLAIN, true), before);
  }

  private static void places(SlicedRows x, int order, boolean turning, int... want) {
    for (int i = 0; i < want.length; i++) {
      due.is("placed(" + order + ", " + turning + ", " + i + ")", x.placed(order, turning, i), want[i]);
    }
  }

  private static void placed() {
    SlicedRows x = new SlicedRows();
    due.is("empty", x.placed(PLAIN, false, 63), 63);
    due.is("i", x.placed(PLAIN, false, 64), OUTSIDE);
    due.is("i", x.placed(PLAIN, false, -1), OUTSIDE);
    due.is("order", x.placed(28, false, 0), OUTSIDE);
    x.row(2, 1, 0, 0);
    x.row(1, 1, 0, 0);
    x.row(2, 0, 0, 0);
    x.row(1, 1, 0, 0);
    x.row(0, 9, 5, 4);
    x.row(1, 1, 0, 1);
    x.drop(4);
    // by a, b, c, d; the empty ones by LINE behind
    places(x, PLAIN, false, 1, 3, 5, 2, 0, 4, 6, 7);
    // by b, a, ..
    places(x, 64 + 0 + 8 + 3, false, 2, 1, 3, 5, 0, 4, 6);
    // by d, c, b, a
    places(x, 228, false, 2, 1, 3, 0, 5, 4, 6);
    due.is("the last", x.placed(PLAIN, false, 63), 63);
  }

  private static void placedTurning() {
    SlicedRows x = new SlicedRows();
    x.row(0, 1, 0, 0);
    x.row(0, 0, 0, 0);
    x.row(3, 1, 0, 0);
    x.row(3, 2, 0, 0);
    x.row(3, 2, 0, 0);
    x.row(5, 2, 0, 0);
    x.row(5, 1, 0, 0);
    places(x, PLAIN, false, 1, 0, 2, 3, 4, 6, 5);
    // the second run falls by b, like ones lie by LINE
    places(x, PLAIN, true, 1, 0, 3, 4, 2, 6, 5, 7, 8);
  }

  private static void runsAreCountedThroughTheTable() {
    SlicedRows x = new SlicedRows();
    // three runs in a, b; the third lies in another run of a, yet it is the third: it rises by c
    x.row(0, 0, 1, 0);
    x.row(0, 0, 2, 0);
    x.row(0, 1, 1, 0);
    x.row(0, 1, 2, 0);
    x.row(1, 1, 2, 0);
    x.row(1, 1, 1, 0);
    x.row(2, 1, 1, 5);
    x.row(2, 1, 1, 6);
    places(x, PLAIN, true, 0, 1, 3, 2, 5, 4, 6, 7);
    // runs in a, b, c are 0 1 3 2 5 4 and {6, 7}: the seventh rises by d
    x.drop(0);
    // now the runs lie: 1 | 3 2 | 5 4 | 6 7; {6, 7} is the sixth and falls by d
    places(x, PLAIN, true, 1, 3, 2, 5, 4, 7, 6, 0);
  }

  private static void order() {
    SlicedRows x = new SlicedRows();
    due.is("what", x.order(3), OUTSIDE);
    due.is("what", x.order(-1), OUTSIDE);
    due.is("not counted", x.count(8), 0);
    x.size(0, 9);
    x.design(1, 1, 404L);
    for (int seed = 1; seed <= 3; seed++) {
      x.fill(seed * 1000003, 20);
      int fewest = Integer.MAX_VALUE;
      int figure = -1;
      int turned = -1;
      for (int turn = 0; turn <= 1; turn++) {
        for (int order = 0; order < 256; order++) {
          int all = x.all(order, turn == 1);
          if (all < 0 || all >= fewest) continue;
          fewest = all;
          figure = order;
          turned = turn;
        }
      }
      due.is("order(0)", x.order(0), fewest);
      due.is("order(1)", x.order(1), figure);
      due.is("order(2)", x.order(2), turned);
      due.is("counted", x.count(8), 3 * seed);
    }
    for (int i = 9; i < 30; i++) x.order(0);
    due.is("30 times", x.order(0), STATE);
    due.is("OUTSIDE first", x.order(3), OUTSIDE);
    due.is("counted", x.count(8), 30);
  }

  private static void orderOfLikeOnes() {
    SlicedRows x = new SlicedRows();
    due.is("empty: WORDS", x.order(0), 128);
    due.is("empty: the least figure", x.order(1), PLAIN);
    due.is("empty: not TURNING", x.order(2), 0);
    SlicedRows y = new SlicedRows();
    for (int column = 0; column < 4; column++) y.size(column, 2);
    // TURNING lets the ones of b lie in one FILL of 7 where they are cut else
    for (int i = 0; i < 7; i++) y.row(0, 0, 0, 0);
    for (int i = 0; i < 4; i++) y.row(0, 1, 0, 0);
    for (int i = 0; i < 3; i++) y.row(1, 1, 0, 0);
    for (int i = 0; i < 7; i++) y.row(1, 0, 0, 0);
    due.is("plain", y.words(1, 0, PLAIN, false), 5);
    due.is("turning", y.words(1, 0, PLAIN, true), 4);
    int fewest = y.order(0);
    due.is("figure", y.all(y.order(1), y.order(2) == 1), fewest);
  }
}
