/** Promises 23 to 25: tear, mend, parity. */
public final class TornTest {
  private static final int UNKNOWN = SlicedRows.UNKNOWN, STATE = SlicedRows.STATE;
  private static final Due due = new Due("TornTest");

  public static void main(String[] args) {
    tear();
    mend();
    parity();
    due.end();
  }

  private static void tear() {
    SlicedRows x = new SlicedRows();
    x.size(0, 6);
    x.design(0, 0, 302L);
    due.is("tear(0, 3)", x.tear(0, 3), 1);
    due.is("tear(0, 3) again", x.tear(0, 3), STATE);
    due.is("tear(0, 0)", x.tear(0, 0), 2);
    due.is("tear(0, 4)", x.tear(0, 4), UNKNOWN);
    due.is("tear(0, -1)", x.tear(0, -1), UNKNOWN);
    due.is("tear(4, 0)", x.tear(4, 0), UNKNOWN);
    due.is("tear(-1, 0)", x.tear(-1, 0), UNKNOWN);
    due.is("of its COLUMN", x.tear(1, 15), 1);
    due.is("all TORN", x.count(6), 3);
    due.is("about", x.about(0, 4), 2);
    x.row(1, 1, 1, 1);
    x.mark();
    x.back(0);
    x.drop(0);
    x.undo();
    due.is("what is TORN stays", x.count(6), 3);
    due.is("stays TORN", x.tear(0, 0), STATE);
  }

  private static void mend() {
    SlicedRows x = new SlicedRows();
    due.is("none is TORN", x.mend(0), STATE);
    due.is("column", x.mend(4), UNKNOWN);
    due.is("column", x.mend(-1), UNKNOWN);
    x.tear(0, 9);
    x.tear(1, 0);
    x.tear(2, 4);
    x.tear(2, 5);
    due.is("mend(0)", x.mend(0), 9);
    due.is("mend(0) again", x.mend(0), STATE);
    due.is("mend(1)", x.mend(1), 0);
    due.is("two", x.mend(2), STATE);
    due.is("two are TORN still", x.count(6), 2);
    due.is("can be TORN again", x.tear(0, 9), 1);
    x.size(3, 32);
    x.design(3, 0, 3131L);
    x.tear(3, 61);
    due.is("the last of 62", x.mend(3), 61);
  }

  private static void parity() {
    SlicedRows x = new SlicedRows();
    x.size(0, 4);
    x.size(1, 5);
    x.size(2, 6);
    x.design(0, 0, 202L);
    x.design(1, 1, 5L);
    x.design(2, 0, 302L);
    due.is("empty", x.parity(0), 0);
    for (int v = 0; v < 4; v++) x.row(v, v, v, v);
    x.row(0, 4, 4, 4);
    due.is("figures of BASE 2", x.parity(0), Due.lines(1, 2));
    due.is("UP TO: 4, 3, 2, 1, 0 of them", x.parity(1), Due.lines(1, 3));
    due.is("2, 3: one, or two", x.parity(2), Due.lines(0, 2, 4));
    due.is("EACH: just one", x.parity(3), Due.lines(0, 1, 2, 3, 4));
    x.tear(2, 1);
    due.is("never TORN", x.parity(2), Due.lines(0, 2, 4));
    due.is("column", x.parity(4), 0);
    due.is("column", x.parity(-1), 0);
    x.drop(2);
    due.is("no ROW", x.parity(2), Due.lines(0, 4));
    long all = 0;
    for (int v = 0; v < 4; v++) all ^= x.vector(1, v);
    due.is("of all VECTORS", x.parity(1), all);
  }
}
