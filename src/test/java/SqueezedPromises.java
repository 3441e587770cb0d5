import java.util.ArrayList;
import java.util.Comparator;
import java.util.List;

/** What the terms tell of squeezing and of orders, and promises 26 to 29: words, all, placed, order. */
final class SqueezedPromises {
  private static final int UNKNOWN = SlicedRows.UNKNOWN, OUTSIDE = SlicedRows.OUTSIDE, STATE = SlicedRows.STATE;
  /** 0, 1, 2, 3 and 3, 2, 1, 0. */
  private static final int PLAIN = 27, BACKWARD = 228;
  private final Sentences s;

  SqueezedPromises(Sentences s) {
    this.s = s;
  }

  void look() {
    groups();
    fills();
    orders();
    sorted();
    turning();
    turningDeeper();
    wordsOfTheTable();
    bestOrder();
    words();
    all();
    placed();
    order();
  }

  /** Rows that the plain order leaves by line; column 2 has these bits, and one vector, where they are 1. */
  private Run bits(String bits) {
    Run x = s.start();
    x.size(2, 2);
    for (int line = 0; line < bits.length(); line++) x.row(line / 16, line % 16, bits.charAt(line) - '0', 0);
    return x;
  }

  private void squeezed(int want, String bits) {
    Run x = bits(bits);
    x.due(want).words(2, 0, PLAIN, false);
    // where the figure is 0: the bits turned round
    Run y = bits(bits.replace('0', '2').replace('1', '0').replace('2', '1'));
    y.due(want).words(2, 0, PLAIN, false);
  }

  private static String times(int n, String bits) {
    return bits.repeat(n);
  }

  private void groups() {
    s.terms("SQUEEZED: the bits of a VECTOR by an order of LINES are cut in groups of 7, the last one short.");
    squeezed(2, times(64, "0"));
    squeezed(2, times(63, "0") + "1");
    // a bit of the last group of 7 makes a group of it
    squeezed(3, times(62, "0") + "10");
    squeezed(3, times(56, "0") + "1" + times(7, "0"));
    squeezed(4, times(55, "0") + "1" + times(8, "0"));
    squeezed(3, "1" + times(63, "0"));
    squeezed(3, times(6, "0") + "1" + times(57, "0"));
    squeezed(4, times(7, "0") + "1" + times(56, "0"));
    squeezed(4, times(6, "0") + "11" + times(56, "0"));
  }

  private void fills() {
    s.terms("A group of 7 that are alike is a FILL; FILLS of one kind behind one another make one WORD; "
        + "each other group is one (the short last one, too).");
    // 6, 7 and 8 ones, at a border of groups and beside one
    squeezed(3, times(6, "1") + times(58, "0"));
    squeezed(3, times(7, "1") + times(57, "0"));
    squeezed(4, times(8, "1") + times(56, "0"));
    squeezed(4, "0" + times(7, "1") + times(56, "0"));
    squeezed(3, times(14, "1") + times(50, "0"));
    squeezed(4, times(7, "0") + times(7, "1") + times(50, "0"));
    // FILLS of unlike kinds in turn; groups like one another that are no FILLS; FILLS of one kind about a group
    squeezed(10, times(4, times(7, "1") + times(7, "0")) + times(7, "1") + "0");
    squeezed(10, times(9, "1010101") + "1");
    squeezed(10, times(9, "1111110") + "0");
    squeezed(4, times(28, "0") + "0001000" + times(29, "0"));
    squeezed(6, times(7, "1") + "0001000" + times(14, "1") + times(14, "0") + times(21, "1") + "1");
    // the short last group stands alone, be it like the FILL before it or not
    squeezed(2, times(63, "1") + "1");
    squeezed(2, times(63, "1") + "0");

    s.terms("WORDS of a VECTOR: how many.");
    // empty LINES lie behind: 7, 63 and 64 ROWS of ones, and none
    for (int n : new int[] {0, 1, 7, 8, 62, 63, 64}) {
      Run x = s.start();
      for (int i = 0; i < n; i++) x.row(3, 0, 0, 0);
      int want = n == 0 || n >= 63 ? 2 : n % 7 == 0 || n < 7 || n == 62 ? 3 : 4;
      x.due(want).words(0, 3, PLAIN, false);
      x.due(2).words(0, 4, PLAIN, false);
    }
  }

  private static int[] columnsOf(int order) {
    return new int[] {order / 64, order / 16 % 4, order / 4 % 4, order % 4};
  }

  private static List<Integer> permutations() {
    List<Integer> all = new ArrayList<>();
    for (int a = 0; a < 4; a++) for (int b = 0; b < 4; b++) for (int c = 0; c < 4; c++) {
      if (a != b && a != c && b != c) all.add(64 * a + 16 * b + 4 * c + (6 - a - b - c));
    }
    return all;
  }

  private void orders() {
    s.terms("An ORDER of LINES: by COLUMNS in some order (a permutation, told as figures of base 4, the first COLUMN's highest: "
        + "27 is 0, 1, 2, 3)");
    List<Integer> known = permutations();
    s.is("permutations", known.size(), 24);
    Run x = s.start();
    for (int order = -2; order <= 260; order++) {
      if (known.contains(order)) x.due(0).placed(order, order % 2 == 0, 0);
      else x.refuses(OUTSIDE).placed(order, order % 2 == 0, 0);
    }
    // LINE i is first where COLUMN i leads
    Run y = s.start();
    for (int line = 0; line <= 3; line++) y.row(line == 0 ? 0 : 1, line == 1 ? 0 : 1, line == 2 ? 0 : 1, line == 3 ? 0 : 1);
    for (int order : known) {
      for (int i = 0; i <= 3; i++) y.due(columnsOf(order)[i]).placed(order, false, i);
    }
  }

  private void sorted() {
    s.terms("ROWS are sorted by the first, like ones by the second, and so on, like ones by LINE; empty LINES come behind all.");
    for (int order : permutations()) {
      Run x = s.start();
      for (int column = 0; column <= 3; column++) x.size(column, 2 + column % 2);
      x.fill(4321, 50);
      for (int line : new int[] {0, 17, 49}) x.drop(line);
      int[][] rows = new int[64][4];
      List<Integer> lines = new ArrayList<>();
      for (int line = 0; line <= 49; line++) {
        if (line == 0 || line == 17 || line == 49) continue;
        lines.add(line);
        for (int column = 0; column <= 3; column++) rows[line][column] = x.get(line, column);
      }
      Comparator<Integer> by = (one, other) -> 0;
      for (int column : columnsOf(order)) by = by.thenComparingInt(line -> rows[line][column]);
      lines.sort(by.thenComparingInt(line -> line));
      lines.add(0);
      lines.add(17);
      for (int line = 49; line <= 63; line++) lines.add(line);
      for (int i = 0; i <= 63; i++) x.due(lines.get(i)).placed(order, false, i);
    }
  }

  private void places(Run x, int order, boolean turning, int... want) {
    for (int i = 0; i < want.length; i++) x.due(want[i]).placed(order, turning, i);
  }

  private void turning() {
    s.terms("TURNING: of the runs of ROWS that have like numbers in the first COLUMN (of the order), as they lie then, "
        + "the first, third, .. rise by the second COLUMN, the second, fourth, .. fall by it");
    // runs of 0, 3, 5, 15: LINES 0 1 2, 3 4 5, 6 7 8, 9 10 11; like ones by LINE, in a run that falls, too
    Run x = s.start();
    for (int a : new int[] {0, 3, 5, 15}) {
      x.row(a, 1, 0, 0);
      x.row(a, 0, 0, 0);
      x.row(a, 1, 0, 0);
    }
    places(x, PLAIN, false, 1, 0, 2, 4, 3, 5, 7, 6, 8, 10, 9, 11, 12);
    places(x, PLAIN, true, 1, 0, 2, 3, 5, 4, 7, 6, 8, 9, 11, 10, 12);
    // where the first run is gone the second is the first
    for (int line = 0; line <= 2; line++) x.drop(line);
    places(x, PLAIN, true, 4, 3, 5, 6, 8, 7, 10, 9, 11, 0, 1, 2, 12);
    // of the order: 1, 0, 2, 3, runs of 0 and of 1
    places(x, 64 + 8 + 3, true, 4, 7, 10, 9, 11, 6, 8, 3, 5, 0);
    // one run alone rises, as does none
    Run y = s.start();
    places(y, PLAIN, true, 0, 1);
    y.row(7, 1, 0, 0);
    y.row(7, 0, 0, 0);
    places(y, PLAIN, true, 1, 0, 2);
  }

  private void turningDeeper() {
    s.terms("of the runs that are alike in the first two so by the third");
    // runs in a, b as they lie: (0, 0), (0, 1), (0, 2), then (1, 2), (1, 1): the fourth, in the run of 1, falls by c
    Run x = s.start();
    int[][] runs = {{0, 0}, {0, 1}, {0, 2}, {1, 1}, {1, 2}};
    for (int[] run : runs) for (int c = 0; c <= 1; c++) x.row(run[0], run[1], c, 0);
    places(x, PLAIN, true, 0, 1, 3, 2, 4, 5, 9, 8, 6, 7, 10);
    places(x, PLAIN, false, 0, 1, 2, 3, 4, 5, 6, 7, 8, 9, 10);

    s.terms("of those that are alike in the first three so by the last.");
    // of all sixteen ROWS of 0s and 1s each is unlike the one before it in one COLUMN alone
    Run y = s.start();
    for (int i = 0; i <= 15; i++) y.row(i >> 3, (i >> 2) & 1, (i >> 1) & 1, i & 1);
    for (int i = 0; i <= 15; i++) y.due(i ^ (i >> 1)).placed(PLAIN, true, i);
    // three runs, the second by c alone: 2 3 falls by d, 4 5 in another run of a rises
    Run z = s.start();
    int[][] three = {{0, 0, 0}, {0, 0, 1}, {1, 0, 0}};
    for (int[] run : three) for (int d = 0; d <= 1; d++) z.row(run[0], run[1], run[2], d);
    places(z, PLAIN, true, 0, 1, 3, 2, 4, 5, 6);
    z.row(0, 0, 2, 0);
    // now it is the fourth and falls
    places(z, PLAIN, true, 0, 1, 3, 2, 6, 5, 4, 7);
  }

  private void wordsOfTheTable() {
    s.terms("WORDS of THE TABLE by an ORDER: of all VECTORS of all COLUMNS, PRESENT left out.");
    Run x = s.start();
    x.due(2 * 64).all(PLAIN, false);
    for (int column = 0; column <= 3; column++) x.size(column, 2);
    x.due(2 * 4).all(PLAIN, false);
    // one ROW of 1, 0, 1, 0: a group, a FILL, the last
    x.row(1, 0, 1, 0);
    x.due(3 + 2 + 3 + 2).all(PLAIN, false);
    Run y = s.start();
    y.size(0, 32);
    y.design(0, 0, 3131L);
    y.design(1, 1, 404L);
    y.due(2 * (62 + 6 + 32)).all(BACKWARD, true);
    y.fill(77, 40);
    int sum = 0;
    for (int column = 0; column <= 3; column++) {
      for (int v = 0; v < y.about(column, 3); v++) sum += y.words(column, v, BACKWARD, true);
    }
    y.due(sum).all(BACKWARD, true);
  }

  /** A table of numbers 0 and 1: what all() tells of every order must make this the best. */
  private void best(int seed, int n, int words, int figure, int turned) {
    Run x = s.start();
    for (int column = 0; column <= 3; column++) x.size(column, 2);
    x.fill(seed, n);
    boolean before = true;
    for (int turn = 0; turn <= 1; turn++) {
      for (int order : permutations()) {
        if (turn == turned && order == figure) {
          x.due(words).all(order, turn == 1);
          before = false;
        } else {
          s.holds("better than " + order, x.all(order, turn == 1) >= words + (before ? 1 : 0));
        }
      }
    }
    x.due(words).order(0);
    x.due(figure).order(1);
    x.due(turned).order(2);
  }

  private void bestOrder() {
    s.terms("THE BEST ORDER: fewest WORDS");
    best(1, 8, 13, 198, 1);
    best(5, 8, 13, 78, 1);
    s.terms("of like ones not TURNING");
    // TURNING by 39, and by 45, has as few WORDS
    best(37, 8, 14, 75, 0);
    best(15, 9, 14, 75, 0);
    s.terms("of like ones of least figure.");
    best(27, 9, 14, 39, 0);
    best(37, 9, 14, 114, 0);
    best(3, 1, 11, PLAIN, 0);
  }

  private void words() {
    s.promise(26, "WORDS of a VECTOR (TORN or not) by an ORDER.");
    Run x = s.start();
    for (int i = 0; i < 7; i++) x.row(0, 1, 0, 0);
    for (int i = 0; i < 7; i++) x.row(0, 2, 0, 0);
    x.row(0, 1, 0, 0);
    x.due(4).words(0, 0, PLAIN, false);
    x.due(4).words(1, 1, PLAIN, false);
    x.due(5).words(1, 2, PLAIN, false);
    x.due(5).words(1, 2, PLAIN, true);
    x.due(2).words(1, 15, PLAIN, false);
    for (int v = 0; v <= 15; v++) x.tear(1, v);
    x.due(4).words(1, 1, PLAIN, false);
    x.due(5).words(1, 2, PLAIN, false);
    // TURNING lets the ones of b lie in one FILL where they are cut else
    Run y = s.start();
    for (int column = 0; column <= 3; column++) y.size(column, 2);
    for (int i = 0; i < 7; i++) y.row(0, 0, 0, 0);
    for (int i = 0; i < 4; i++) y.row(0, 1, 0, 0);
    for (int i = 0; i < 3; i++) y.row(1, 1, 0, 0);
    for (int i = 0; i < 7; i++) y.row(1, 0, 0, 0);
    y.due(5).words(1, 0, PLAIN, false);
    y.due(4).words(1, 0, PLAIN, true);
    y.due(4).words(1, 0, 64 + 8 + 3, false);
    // the last VECTOR of 62
    Run z = s.start();
    z.size(3, 32);
    z.design(3, 0, 3131L);
    z.due(2).words(3, 61, PLAIN, false);
    z.row(0, 0, 0, 31);
    z.due(2).words(3, 61, PLAIN, false);
    z.due(3).words(3, 32, PLAIN, false);
    z.due(2).words(3, 31, PLAIN, false);

    s.promise(26, "UNKNOWN: column, v; OUTSIDE: order is no permutation.");
    Run w = s.start();
    w.design(1, 1, 404L);
    for (int column : Wrong.COLUMNS) for (int order : new int[] {PLAIN, 26}) w.refuses(UNKNOWN).words(column, 0, order, false);
    for (int v : new int[] {-1, 16, 64, Wrong.MIN, Wrong.MAX}) for (int order : new int[] {PLAIN, 26}) w.refuses(UNKNOWN).words(0, v, order, true);
    w.refuses(UNKNOWN).words(1, 6, PLAIN, false);
    w.due(2).words(1, 5, PLAIN, false);
    w.due(2).words(0, 15, BACKWARD, true);
    for (int order : Wrong.ORDERS) for (int turn = 0; turn <= 1; turn++) w.refuses(OUTSIDE).words(0, 0, order, turn == 1);
  }

  private void all() {
    s.promise(27, "WORDS of THE TABLE by an ORDER.");
    Run x = s.start();
    x.fill(77, 40);
    for (int order : new int[] {PLAIN, BACKWARD}) {
      for (int turn = 0; turn <= 1; turn++) {
        int sum = 0;
        for (int column = 0; column <= 3; column++) {
          for (int v = 0; v <= 15; v++) sum += x.words(column, v, order, turn == 1);
        }
        x.due(sum).all(order, turn == 1);
      }
    }
    int before = x.all(PLAIN, true);
    for (int column = 0; column <= 3; column++) x.tear(column, 15);
    x.due(before).all(PLAIN, true);

    s.promise(27, "OUTSIDE.");
    Run y = s.start();
    for (int order : Wrong.ORDERS) for (int turn = 0; turn <= 1; turn++) y.refuses(OUTSIDE).all(order, turn == 1);
    for (int order : permutations()) y.due(128).all(order, true);
  }

  private void placed() {
    s.promise(28, "The LINE that is i-th by an ORDER (0 to 63; empty ones by LINE behind all ROWS).");
    Run x = s.start();
    for (int i = 0; i <= 63; i++) x.due(i).placed(PLAIN, true, i);
    x.row(2, 1, 0, 0);
    x.row(1, 1, 0, 0);
    x.row(2, 0, 0, 0);
    x.row(1, 1, 0, 0);
    x.row(0, 9, 5, 4);
    x.row(1, 1, 0, 1);
    x.drop(4);
    places(x, PLAIN, false, 1, 3, 5, 2, 0, 4, 6, 7);
    places(x, 64 + 8 + 3, false, 2, 1, 3, 5, 0, 4, 6, 7);
    places(x, BACKWARD, false, 2, 1, 3, 0, 5, 4, 6, 7);
    x.due(63).placed(PLAIN, false, 63);
    // a full table: no LINE is left behind
    Run y = s.start();
    for (int line = 0; line <= 63; line++) y.row(15 - line / 4, 3 - line % 4, 0, 0);
    for (int i = 0; i <= 63; i++) y.due(63 - i).placed(PLAIN, false, i);
    y.drop(63);
    y.due(62).placed(PLAIN, false, 0);
    y.due(0).placed(PLAIN, false, 62);
    y.due(63).placed(PLAIN, false, 63);

    s.promise(28, "OUTSIDE: order, i.");
    Run z = s.start();
    z.fill(1, 64);
    for (int order : Wrong.ORDERS) for (int i : new int[] {0, 64}) z.refuses(OUTSIDE).placed(order, false, i);
    for (int i : new int[] {-1, 64, Wrong.MIN, Wrong.MAX}) for (int turn = 0; turn <= 1; turn++) z.refuses(OUTSIDE).placed(PLAIN, turn == 1, i);
  }

  private void order() {
    s.promise(29, "THE BEST ORDER: what = 0 WORDS, 1 its figure, 2 whether it is TURNING (1, 0).");
    Run x = s.start();
    x.due(128).order(0);
    x.due(PLAIN).order(1);
    x.due(0).order(2);
    x.due(3).count(8);
    best(2, 8, 13, 99, 1);
    best(28, 9, 14, 99, 0);
    best(1, 64, 26, 201, 1);

    s.promise(29, "OUTSIDE; STATE: it was done 30 times.");
    Run y = s.start();
    y.fill(5, 9);
    for (int what : new int[] {-1, 3, 4, Wrong.MIN, Wrong.MAX}) y.refuses(OUTSIDE).order(what);
    y.due(0).count(8);
    int words = y.order(0);
    for (int done = 2; done <= 30; done++) {
      y.due(done - 1).count(8);
      y.due(words).order(0);
    }
    y.due(30).count(8);
    for (int what = 0; what <= 2; what++) y.refuses(STATE).order(what);
    for (int what : new int[] {-1, 3}) y.refuses(OUTSIDE).order(what);
    y.due(30).count(8);
    // it is counted by itself
    y.due(0).count(7);
  }
}
