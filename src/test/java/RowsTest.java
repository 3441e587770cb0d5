/** Promises 1 to 7: a new object, size, row, fill, set, drop, get. */
public final class RowsTest {
  private static final int NONE = SlicedRows.NONE, UNKNOWN = SlicedRows.UNKNOWN, OUTSIDE = SlicedRows.OUTSIDE,
      STATE = SlicedRows.STATE, FULL = SlicedRows.FULL;
  private static final Due due = new Due("RowsTest");

  public static void main(String[] args) {
    newObject();
    size();
    row();
    fill();
    set();
    drop();
    get();
    due.end();
  }

  private static void newObject() {
    SlicedRows x = new SlicedRows();
    for (int what = 0; what <= 8; what++) due.is("new count(" + what + ")", x.count(what), what == 5 ? 64 : 0);
    for (int line = 0; line < 64; line++) {
      for (int column = 0; column < 4; column++) due.is("new get(" + line + ", " + column + ")", x.get(line, column), NONE);
    }
    for (int column = 0; column < 4; column++) {
      due.is("new SIZE", x.about(column, 0), 16);
      due.is("new SORT", x.about(column, 1), 0);
      due.is("new BASES", x.about(column, 2), 1);
      due.is("new BASE", x.about(column, 10), 16);
      due.is("new TORN", x.about(column, 4), 0);
    }
  }

  private static void size() {
    SlicedRows x = new SlicedRows();
    due.is("size(0, 2)", x.size(0, 2), 16);
    due.is("size(0, 32)", x.size(0, 32), 2);
    due.is("size(0, 32) again", x.size(0, 32), 32);
    due.is("SIZE", x.about(0, 0), 32);
    due.is("ROOM", x.about(0, 3), 32);
    due.is("the others stay", x.about(1, 0), 16);
    due.is("size(-1, 99)", x.size(-1, 99), UNKNOWN);
    due.is("size(4, 5)", x.size(4, 5), UNKNOWN);
    due.is("size(0, 1)", x.size(0, 1), OUTSIDE);
    due.is("size(0, 33)", x.size(0, 33), OUTSIDE);
    x.design(0, 1, 804L);
    x.tear(0, 3);
    due.is("size over a DESIGN", x.size(0, 32), 32);
    due.is("SORT is EACH", x.about(0, 1), 0);
    due.is("one BASE", x.about(0, 2), 1);
    due.is("BASE", x.about(0, 10), 32);
    due.is("no second", x.about(0, 11), NONE);
    due.is("nothing TORN", x.about(0, 4), 0);

    x.row(0, 0, 0, 0);
    due.is("a ROW: column first", x.size(9, 5), UNKNOWN);
    due.is("a ROW: c first", x.size(0, 1), OUTSIDE);
    due.is("a ROW", x.size(0, 5), STATE);
    due.is("nothing changed", x.about(0, 0), 32);
    x.drop(0);
    due.is("CHANGES before", x.count(3), 2);
    due.is("no ROW more", x.size(1, 5), 16);
    due.is("CHANGES are gone", x.count(3), 0);
    due.is("nothing to undo", x.undo(), STATE);
    x.mark();
    due.is("a MARK of an empty table", x.size(1, 6), STATE);
  }

  private static void row() {
    SlicedRows x = new SlicedRows();
    x.size(0, 2);
    x.size(1, 3);
    x.size(2, 4);
    x.size(3, 5);
    due.is("row at the edges", x.row(1, 2, 3, 4), 0);
    due.is("row of 0", x.row(0, 0, 0, 0), 1);
    due.is("a", x.row(2, 0, 0, 0), OUTSIDE);
    due.is("b", x.row(0, 3, 0, 0), OUTSIDE);
    due.is("c", x.row(0, 0, 4, 0), OUTSIDE);
    due.is("d", x.row(0, 0, 0, 5), OUTSIDE);
    due.is("a below", x.row(-1, 0, 0, 0), OUTSIDE);
    due.is("b below", x.row(0, -1, 0, 0), OUTSIDE);
    due.is("c below", x.row(0, 0, -1, 0), OUTSIDE);
    due.is("d below", x.row(0, 0, 0, Integer.MIN_VALUE), OUTSIDE);
    due.is("refusals bring nothing", x.count(0), 2);
    due.is("a of line 0", x.get(0, 0), 1);
    due.is("b of line 0", x.get(0, 1), 2);
    due.is("c of line 0", x.get(0, 2), 3);
    due.is("d of line 0", x.get(0, 3), 4);
    for (int line = 2; line < 64; line++) due.is("row", x.row(1, 1, 1, 1), line);
    due.is("full, but OUTSIDE first", x.row(2, 0, 0, 0), OUTSIDE);
    due.is("full", x.row(0, 0, 0, 0), FULL);
    x.drop(40);
    x.drop(7);
    due.is("the least empty LINE", x.row(0, 0, 0, 0), 7);
    due.is("then the next", x.row(0, 0, 0, 0), 40);
    due.is("full again", x.row(0, 0, 0, 0), FULL);
  }

  private static void fill() {
    SlicedRows x = new SlicedRows();
    x.size(0, 32);
    x.size(1, 7);
    x.size(2, 2);
    due.is("fill(-1, 1)", x.fill(-1, 1), OUTSIDE);
    due.is("fill(0, 0)", x.fill(0, 0), OUTSIDE);
    due.is("fill(0, 65)", x.fill(0, 65), OUTSIDE);
    due.is("nothing came", x.count(0), 0);
    x.row(1, 1, 1, 1);
    x.row(2, 2, 1, 2);
    x.drop(0);
    due.is("fill(2147483647, 3)", x.fill(2147483647, 3), 3);
    int[] size = {32, 7, 2, 16};
    long seed = 2147483647L;
    for (int line : new int[] {0, 2, 3}) {
      for (int column = 0; column < 4; column++) {
        seed = (1103515245L * seed + 12345L) % 2147483648L;
        due.is("filled " + line + ", " + column, x.get(line, column), (seed / 65536L) % size[column]);
      }
    }
    due.is("each is a CHANGE", x.count(3), 6);
    due.is("fill up", x.fill(0, 64), 60);
    due.is("full", x.fill(5, 1), 0);
    due.is("full, OUTSIDE", x.fill(5, 65), OUTSIDE);
    SlicedRows y = new SlicedRows();
    due.is("fill(0, 64)", y.fill(0, 64), 64);
    due.is("12345 by 65536", y.get(0, 0), 0);
    due.is("second", y.get(0, 1), (1103515245L * 12345L + 12345L) % 2147483648L / 65536L % 16L);
  }

  private static void set() {
    SlicedRows x = new SlicedRows();
    x.size(3, 5);
    x.row(1, 2, 3, 4);
    x.row(5, 6, 7, 0);
    due.is("set(0, 3, 0)", x.set(0, 3, 0), 4);
    due.is("set(0, 0, 15)", x.set(0, 0, 15), 1);
    due.is("set(0, 0, 14)", x.set(0, 0, 14), 15);
    due.is("neighbour stays", x.get(0, 1), 2);
    due.is("other line stays", x.get(1, 0), 5);
    due.is("empty LINE", x.set(2, 0, 0), UNKNOWN);
    due.is("line -1", x.set(-1, 0, 0), UNKNOWN);
    due.is("line 64", x.set(64, 0, 0), UNKNOWN);
    due.is("column 4, v outside", x.set(0, 4, 99), UNKNOWN);
    due.is("column -1", x.set(0, -1, 0), UNKNOWN);
    due.is("v 5 of SIZE 5", x.set(0, 3, 5), OUTSIDE);
    due.is("v -1", x.set(0, 3, -1), OUTSIDE);
    due.is("v 4", x.set(0, 3, 4), 0);
    due.is("CHANGES", x.count(3), 6);
    due.is("what it is already", x.set(0, 3, 4), 4);
    due.is("is a CHANGE too", x.count(3), 7);
  }

  private static void drop() {
    SlicedRows x = new SlicedRows();
    x.fill(1, 3);
    due.is("drop(1)", x.drop(1), 2);
    due.is("drop(1) again", x.drop(1), UNKNOWN);
    due.is("drop(-1)", x.drop(-1), UNKNOWN);
    due.is("drop(64)", x.drop(64), UNKNOWN);
    due.is("drop(0)", x.drop(0), 1);
    due.is("drop(2)", x.drop(2), 0);
    due.is("gone", x.get(2, 0), NONE);
  }

  private static void get() {
    SlicedRows x = new SlicedRows();
    x.row(15, 0, 3, 4);
    due.is("get(0, 0)", x.get(0, 0), 15);
    due.is("get(0, 1)", x.get(0, 1), 0);
    due.is("get(63, 3)", x.get(63, 3), NONE);
    due.is("get(64, 3)", x.get(64, 3), UNKNOWN);
    due.is("get(-1, 3)", x.get(-1, 3), UNKNOWN);
    due.is("get(63, 4)", x.get(63, 4), UNKNOWN);
    due.is("get(0, -1)", x.get(0, -1), UNKNOWN);
  }
}
