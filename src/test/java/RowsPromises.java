/** The table, and promises 1 to 7: a new object, size, row, fill, set, drop, get. */
final class RowsPromises {
  private static final int NONE = SlicedRows.NONE, UNKNOWN = SlicedRows.UNKNOWN, OUTSIDE = SlicedRows.OUTSIDE,
      STATE = SlicedRows.STATE, FULL = SlicedRows.FULL;
  private final Sentences s;

  RowsPromises(Sentences s) {
    this.s = s;
  }

  void look() {
    table();
    newObject();
    size();
    sizeRefused();
    row();
    fill();
    fillRefused();
    set();
    drop();
    get();
  }

  private void table() {
    s.terms("THE TABLE has LINES 0 to 63, each empty or a ROW of four COLUMNS 0 to 3");
    Run x = s.start();
    for (int line = 0; line <= 63; line++) x.due(line).row(line % 16, line / 16, 15 - line % 16, 1);
    int[] last = {15, 3, 0, 1};
    for (int column = 0; column <= 3; column++) x.due(last[column]).get(63, column);
    x.due(63).drop(63);
    for (int column = 0; column <= 3; column++) x.due(NONE).get(63, column);
    x.due(14).get(62, 0);

    s.terms("a COLUMN has a SIZE C (2 to 32; 16 at first): its numbers are 0 to C less 1.");
    for (int c : new int[] {2, 16, 32}) {
      Run y = s.start();
      for (int column = 0; column <= 3; column++) y.due(16).about(column, 0);
      for (int column = 0; column <= 3; column++) y.due(16).size(column, c);
      y.due(0).row(c - 1, 0, c - 1, 0);
      y.due(1).row(0, c - 1, 0, c - 1);
      for (int column = 0; column <= 3; column++) {
        y.due(column % 2 == 0 ? c - 1 : 0).set(0, column, 0);
        y.due(0).set(0, column, c - 1);
        y.refuses(OUTSIDE).set(0, column, c);
        y.refuses(OUTSIDE).set(0, column, -1);
      }
    }

    s.terms("An object is used for at most 512 calls after it has been made; what later calls answer is free.");
    Run z = s.start();
    z.due(0).row(0, 0, 0, 0);
    for (int call = 2; call <= 510; call++) z.due((call - 2) % 16).set(0, 0, (call - 1) % 16);
    z.due(99).undo();
    z.due(508 % 16).get(0, 0);
  }

  private void newObject() {
    s.promise(1, "An empty table.");
    Run x = s.start();
    for (int what = 0; what <= 8; what++) x.due(what == 5 ? 64 : 0).count(what);
    for (int line = 0; line <= 63; line++) {
      for (int column = 0; column <= 3; column++) x.due(NONE).get(line, column);
    }
    for (int column = 0; column <= 3; column++) {
      for (int v : new int[] {0, 15}) x.due(0).vector(column, v);
      x.due(0).parity(column);
    }
    x.due(0).blank();
    x.refuses(STATE).undo();
    x.refuses(UNKNOWN).back(0);
    x.refuses(UNKNOWN).asked(0, 0);
    Run y = s.start();
    y.row(1, 1, 1, 1);
    Run z = s.start();
    z.due(0).count(0);
  }

  private void size() {
    s.promise(2, "SIZE of a COLUMN becomes c");
    Run x = s.start();
    for (int column = 0; column <= 3; column++) {
      for (int c : new int[] {2, 32, 2 + column}) {
        x.size(column, c);
        x.due(c).about(column, 0);
      }
    }
    for (int column = 0; column <= 3; column++) x.due(2 + column).about(column, 0);
    x.due(0).row(1, 2, 3, 4);
    x.refuses(OUTSIDE).row(2, 2, 3, 4);

    s.promise(2, "its DESIGN one BASE c, EACH");
    for (int c : new int[] {16, 12, 2, 32}) {
      Run y = s.start();
      y.due(6).design(1, 1, 404L);
      y.due(6).design(2, 1, 404L);
      y.size(1, c);
      int[] want = {c, 0, 1, c == 2 ? 1 : c, 0};
      for (int what = 0; what <= 4; what++) y.due(want[what]).about(1, what);
      y.due(c).about(1, 10);
      for (int what = 11; what <= 14; what++) y.due(NONE).about(1, what);
      y.due(6).about(2, 3);
      y.due(16).about(2, 0);
    }

    s.promise(2, "nothing of it TORN");
    Run z = s.start();
    for (int v = 0; v <= 15; v++) z.due(v + 1).tear(0, v);
    z.due(1).tear(1, 15);
    z.due(16).size(0, 16);
    z.due(0).about(0, 4);
    z.due(1).about(1, 4);
    z.due(1).count(6);
    z.due(1).tear(0, 0);

    s.promise(2, "CHANGES kept are gone");
    Run w = s.start();
    w.row(1, 1, 1, 1);
    w.drop(0);
    w.due(2).count(3);
    w.due(16).size(3, 16);
    w.due(0).count(3);
    w.refuses(STATE).undo();
    w.due(0).count(0);

    s.promise(2, "what SIZE was");
    Run v = s.start();
    v.due(16).size(0, 2);
    v.due(2).size(0, 32);
    v.due(32).size(0, 32);
    v.due(32).size(0, 2);
    v.due(16).size(3, 2);
  }

  private void sizeRefused() {
    s.promise(2, "UNKNOWN: column");
    Run x = s.start();
    for (int column : Wrong.COLUMNS) x.refuses(UNKNOWN).size(column, 5);
    for (int column : Wrong.COLUMNS) x.refuses(UNKNOWN).size(column, 33);
    x.row(0, 0, 0, 0);
    for (int column : Wrong.COLUMNS) x.refuses(UNKNOWN).size(column, 1);

    s.promise(2, "OUTSIDE");
    Run y = s.start();
    y.tear(3, 1);
    y.row(0, 0, 0, 0);
    y.drop(0);
    for (int c : Wrong.SIZES) y.refuses(OUTSIDE).size(3, c);
    y.due(1).about(3, 4);
    y.due(2).count(3);
    y.mark();
    for (int c : Wrong.SIZES) y.refuses(OUTSIDE).size(3, c);
    y.row(0, 0, 0, 0);
    for (int c : Wrong.SIZES) y.refuses(OUTSIDE).size(3, c);

    s.promise(2, "STATE: there is a ROW, or a MARK.");
    Run z = s.start();
    for (int line = 0; line <= 63; line++) z.row(0, 0, 0, 0);
    for (int line = 0; line <= 62; line++) z.drop(line);
    z.tear(0, 0);
    z.refuses(STATE).size(0, 16);
    z.refuses(STATE).size(3, 2);
    z.due(1).count(6);
    z.due(100).count(3);
    z.drop(63);
    z.due(16).size(0, 16);
    z.mark();
    for (int column = 0; column <= 3; column++) z.refuses(STATE).size(column, 16);
    z.row(0, 0, 0, 0);
    z.refuses(STATE).size(0, 5);
    z.undo();
    z.refuses(STATE).size(0, 5);
    z.back(0);
    z.refuses(STATE).size(0, 5);
  }

  private void row() {
    s.promise(3, "A ROW comes into the least empty LINE: its number.");
    Run x = s.start();
    for (int line = 0; line <= 63; line++) x.due(line).row(1, 2, 3, 4);
    for (int line : new int[] {63, 40, 0, 7}) x.drop(line);
    x.due(0).row(5, 6, 7, 8);
    for (int column = 0; column <= 3; column++) x.due(5 + column).get(0, column);
    x.due(7).row(0, 0, 0, 0);
    x.due(40).row(0, 0, 0, 0);
    x.due(63).row(15, 15, 15, 15);
    x.due(64).count(0);
    x.due(15).get(63, 3);
    x.due(1).get(62, 0);

    s.promise(3, "OUTSIDE: a, b, c, d by SIZES");
    Run y = s.start();
    for (int column = 0; column <= 3; column++) y.size(column, 2 + column);
    y.due(0).row(1, 2, 3, 4);
    for (int off : new int[] {0, 1, 99, Wrong.MAX - 5}) {
      y.refuses(OUTSIDE).row(2 + off, 0, 0, 0);
      y.refuses(OUTSIDE).row(0, 3 + off, 0, 0);
      y.refuses(OUTSIDE).row(0, 0, 4 + off, 0);
      y.refuses(OUTSIDE).row(0, 0, 0, 5 + off);
    }
    for (int below : new int[] {-1, Wrong.MIN}) {
      y.refuses(OUTSIDE).row(below, 0, 0, 0);
      y.refuses(OUTSIDE).row(0, below, 0, 0);
      y.refuses(OUTSIDE).row(0, 0, below, 0);
      y.refuses(OUTSIDE).row(0, 0, 0, below);
    }
    y.due(1).count(0);
    y.due(1).count(3);

    s.promise(3, "FULL.");
    Run z = s.start();
    z.due(64).fill(1, 64);
    z.refuses(FULL).row(0, 0, 0, 0);
    z.refuses(OUTSIDE).row(16, 0, 0, 0);
    z.refuses(OUTSIDE).row(0, 0, 0, -1);
    z.due(63).drop(31);
    z.due(31).row(0, 0, 0, 0);
    z.refuses(FULL).row(0, 0, 0, 0);
    z.due(65).undo();
    z.due(NONE).get(31, 0);
  }

  private void fill() {
    s.promise(4, "ROWS come by SEED x (0 to 2147483647), n of them (1 to 64), as long as there is an empty LINE: how many came.");
    for (int seed : new int[] {0, 2147483647}) {
      Run x = s.start();
      x.due(1).fill(seed, 1);
      x.due(1).count(0);
      x.due(NONE).get(1, 0);
      x.due(63).fill(seed, 63);
      x.due(0).fill(seed, 1);
      x.due(0).fill(seed, 64);
      x.due(64).count(3);
    }
    Run y = s.start();
    y.due(64).fill(5, 64);
    for (int line : new int[] {63, 0, 20}) y.drop(line);
    y.due(2).fill(0, 2);
    y.due(0).get(0, 0);
    s.holds("a ROW came into LINE 20", y.get(20, 0) >= 0);
    y.due(NONE).get(63, 0);
    y.due(1).fill(9, 64);
    y.due(0).fill(9, 64);
    y.due(64).count(0);

    s.promise(4, "For each: of COLUMNS 0 to 3: x becomes 1103515245 times x and 12345, its lower 31 binary figures alone; "
        + "the number is x by 65536, rounded down, modulo SIZE.");
    int[][] sizes = {{16, 16, 16, 16}, {2, 3, 5, 7}, {32, 31, 29, 2}};
    for (int seed : new int[] {0, 1, 65535, 1234567, 2147483646, 2147483647}) {
      for (int[] of : sizes) filled(seed, of);
    }
    // the first x of seed 0 is 12345, below 65536; the second is 1406932606, which is 21468 by 65536
    Run z = s.start();
    z.fill(0, 1);
    z.due(0).get(0, 0);
    z.due(21468 % 16).get(0, 1);
  }

  /** Holes are filled, too, and the seed goes on from row to row. */
  private void filled(int seed, int[] sizes) {
    Run x = s.start();
    for (int column = 0; column <= 3; column++) x.size(column, sizes[column]);
    for (int i = 0; i < 3; i++) x.row(1, 1, 1, 1);
    x.drop(1);
    x.due(8).fill(seed, 8);
    java.math.BigInteger number = java.math.BigInteger.valueOf(seed);
    for (int line : new int[] {1, 3, 4, 5, 6, 7, 8, 9}) {
      for (int column = 0; column <= 3; column++) {
        number = number.multiply(java.math.BigInteger.valueOf(1103515245L)).add(java.math.BigInteger.valueOf(12345L));
        number = number.mod(java.math.BigInteger.ONE.shiftLeft(31));
        x.due(number.longValue() / 65536L % sizes[column]).get(line, column);
      }
    }
    x.due(1).get(0, 0);
    x.due(1).get(2, 3);
    x.due(12).count(3);
  }

  private void fillRefused() {
    s.promise(4, "OUTSIDE.");
    Run x = s.start();
    for (int seed : new int[] {-1, Wrong.MIN}) {
      x.refuses(OUTSIDE).fill(seed, 1);
      x.refuses(OUTSIDE).fill(seed, 64);
      x.refuses(OUTSIDE).fill(seed, 0);
    }
    for (int n : new int[] {0, -1, 65, Wrong.MIN, Wrong.MAX}) x.refuses(OUTSIDE).fill(1, n);
    x.due(0).count(0);
    x.due(64).fill(1, 64);
    x.refuses(OUTSIDE).fill(1, 65);
    x.refuses(OUTSIDE).fill(-1, 1);
  }

  private void set() {
    s.promise(5, "A COLUMN of a ROW becomes v: what it was.");
    Run x = s.start();
    x.size(3, 5);
    x.fill(3, 64);
    x.drop(63);
    x.due(63).row(1, 2, 3, 4);
    x.due(4).set(63, 3, 0);
    x.due(0).set(63, 3, 4);
    x.due(1).set(63, 0, 15);
    x.due(15).set(63, 0, 15);
    x.due(15).set(63, 0, 0);
    int[] want = {0, 2, 3, 4};
    for (int column = 0; column <= 3; column++) x.due(want[column]).get(63, column);
    int above = x.get(62, 0);
    x.set(63, 0, 9);
    x.due(above).get(62, 0);

    s.promise(5, "UNKNOWN: line (no ROW), column");
    Run y = s.start();
    y.fill(3, 3);
    y.drop(1);
    for (int line : Wrong.LINES) y.refuses(UNKNOWN).set(line, 0, 0);
    for (int line : new int[] {1, 3, 63}) y.refuses(UNKNOWN).set(line, 0, 0);
    y.refuses(UNKNOWN).set(1, 0, 99);
    for (int column : Wrong.COLUMNS) y.refuses(UNKNOWN).set(0, column, 0);
    for (int column : Wrong.COLUMNS) y.refuses(UNKNOWN).set(2, column, -1);
    y.due(4).count(3);

    s.promise(5, "OUTSIDE: v.");
    Run z = s.start();
    for (int column = 0; column <= 3; column++) z.size(column, 2 + 10 * column);
    z.row(1, 11, 21, 31);
    for (int column = 0; column <= 3; column++) {
      for (int v : new int[] {2 + 10 * column, 3 + 10 * column, -1, Wrong.MIN, Wrong.MAX}) z.refuses(OUTSIDE).set(0, column, v);
      z.due(1 + 10 * column).set(0, column, 0);
    }
    z.due(5).count(3);
  }

  private void drop() {
    s.promise(6, "A ROW goes: how many are left.");
    Run x = s.start();
    x.fill(2, 64);
    x.due(63).drop(63);
    x.due(62).drop(0);
    for (int line = 1; line <= 62; line++) x.due(62 - line).drop(line);
    x.due(0).count(0);
    for (int line : new int[] {0, 31, 63}) x.due(NONE).get(line, 0);
    for (int v = 0; v <= 15; v++) x.due(0).vector(0, v);

    s.promise(6, "UNKNOWN: line.");
    Run y = s.start();
    for (int line : new int[] {0, 63}) y.refuses(UNKNOWN).drop(line);
    y.row(1, 1, 1, 1);
    for (int line : Wrong.LINES) y.refuses(UNKNOWN).drop(line);
    y.refuses(UNKNOWN).drop(1);
    y.due(0).drop(0);
    y.refuses(UNKNOWN).drop(0);
    y.due(2).count(3);
  }

  private void get() {
    s.promise(7, "What a ROW has");
    Run x = s.start();
    x.size(0, 32);
    x.size(3, 2);
    x.due(0).row(31, 0, 15, 1);
    x.due(1).row(0, 15, 0, 0);
    int[] first = {31, 0, 15, 1};
    int[] second = {0, 15, 0, 0};
    for (int column = 0; column <= 3; column++) {
      x.due(first[column]).get(0, column);
      x.due(second[column]).get(1, column);
    }
    x.tear(0, 31);
    x.due(31).get(0, 0);

    s.promise(7, "NONE: the LINE is empty.");
    Run y = s.start();
    y.row(0, 0, 0, 0);
    y.row(0, 0, 0, 0);
    y.drop(0);
    for (int line : new int[] {0, 2, 63}) for (int column = 0; column <= 3; column++) y.due(NONE).get(line, column);
    y.due(0).get(1, 0);

    s.promise(7, "UNKNOWN: line (0 to 63), column.");
    Run z = s.start();
    z.row(0, 0, 0, 0);
    for (int line : Wrong.LINES) z.refuses(UNKNOWN).get(line, 0);
    for (int column : Wrong.COLUMNS) {
      z.refuses(UNKNOWN).get(0, column);
      z.refuses(UNKNOWN).get(63, column);
      z.refuses(UNKNOWN).get(64, column);
    }
  }
}
