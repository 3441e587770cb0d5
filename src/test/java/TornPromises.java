/** What the terms tell of torn vectors, and promises 23 to 25: tear, mend, parity. */
final class TornPromises {
  private static final int UNKNOWN = SlicedRows.UNKNOWN, STATE = SlicedRows.STATE;
  private final Sentences s;

  TornPromises(Sentences s) {
    this.s = s;
  }

  void look() {
    terms();
    parityTerms();
    mending();
    tear();
    mend();
    parity();
  }

  private void terms() {
    s.terms("TORN VECTORS: what is in them can't be read.");
    Run x = s.start();
    for (int v = 0; v <= 15; v++) x.row(v, v, v, v);
    for (int v : new int[] {0, 7, 15}) {
      x.due(1L << v).vector(2, v);
      x.tear(2, v);
      x.refuses(0L).vector(2, v);
    }
    x.due(2L).vector(2, 1);
    x.due(1L).vector(1, 0);
    x.due(7).get(7, 2);

    s.terms("A QUESTION FAILS, if it reads one.");
    Run y = s.start();
    y.row(3, 1, 0, 0);
    String[] texts = {"a=3|b=1", "b=1", "a<3", "a<4", "!a=3", "a=3&a<0", "b=9|(c=1&!(d=0|a>2))", "a<0|a>15"};
    int[] byVector3 = {1, 0, 0, 1, 1, 1, 0, 0};
    int[] byVector2 = {0, 0, 1, 1, 0, 0, 1, 0};
    for (String text : texts) y.ask(text);
    for (int q = 0; q < texts.length; q++) y.due(0).asked(q, 2);
    y.tear(0, 3);
    for (int q = 0; q < texts.length; q++) y.due(byVector3[q]).asked(q, 2);
    y.tear(0, 2);
    for (int q = 0; q < texts.length; q++) y.due(byVector3[q] | byVector2[q]).asked(q, 2);
    for (int v = 0; v <= 15; v++) if (v != 2 && v != 3) y.tear(0, v);
    y.due(0).asked(1, 2);
    y.due(1L).leaves(1);
    y.due(0).asked(7, 2);
    y.design(0, 0, 16L);
    for (int q = 0; q < texts.length; q++) y.due(0).asked(q, 2);
  }

  private void parityTerms() {
    s.terms("PARITY of a COLUMN: bits that are 1 in an odd number of its VECTORS; it is never TORN.");
    Run x = s.start();
    x.size(0, 5);
    for (int v = 0; v <= 4; v++) x.row(v, 0, 0, 0);
    x.due(31L).parity(0);
    x.design(0, 1, 5L);
    // 4, 3, 2, 1, 0 of them
    x.due(Due.lines(1, 3)).parity(0);
    x.design(0, 0, 302L);
    // one of BASE 3, and that of BASE 2 where the number is odd
    x.due(Due.lines(0, 2, 4)).parity(0);
    for (int v = 0; v <= 3; v++) x.tear(0, v);
    x.due(Due.lines(0, 2, 4)).parity(0);
    x.set(0, 0, 1);
    x.due(Due.lines(2, 4)).parity(0);
    x.design(0, 0, 20202L);
    // 1, 1, 2, 3, 4
    x.due(Due.lines(0, 1, 2, 4)).parity(0);
  }

  private void mending() {
    s.terms("One TORN VECTOR of a COLUMN is mended by PARITY and all its others; of two or more none is.");
    Run x = s.start();
    x.size(0, 12);
    x.design(0, 1, 304L);
    x.fill(8, 20);
    for (int v = 0; v <= 4; v++) {
      x.tear(0, v);
      x.set(v, 0, 11 - v);
      x.drop(19 - v);
      long mended = x.parity(0);
      for (int other = 0; other <= 4; other++) if (other != v) mended ^= x.vector(0, other);
      x.due(v).mend(0);
      x.due(mended).vector(0, v);
    }
    x.tear(0, 1);
    x.tear(0, 3);
    x.refuses(STATE).mend(0);
    x.refuses(0L).vector(0, 1);
    x.refuses(0L).vector(0, 3);
    x.tear(0, 0);
    x.refuses(STATE).mend(0);
    x.due(3).about(0, 4);
    // another COLUMN's are no hindrance
    x.tear(1, 9);
    x.due(9).mend(1);
  }

  private void tear() {
    s.promise(23, "A VECTOR is TORN: how many of the COLUMN are.");
    Run x = s.start();
    x.size(0, 32);
    x.design(0, 0, 3131L);
    for (int v = 61; v >= 0; v--) x.due(62 - v).tear(0, v);
    x.due(1).tear(1, 15);
    x.due(2).tear(1, 0);
    x.due(1).tear(3, 7);
    x.due(62).about(0, 4);
    x.due(65).count(6);
    // an empty VECTOR, and what stays TORN
    x.row(0, 0, 0, 0);
    x.mark();
    x.drop(0);
    x.undo();
    x.back(0);
    x.due(65).count(6);
    x.due(0L).vector(0, 31);

    s.promise(23, "UNKNOWN; STATE: it is already.");
    Run y = s.start();
    y.size(0, 2);
    y.design(1, 1, 404L);
    for (int column : Wrong.COLUMNS) y.refuses(UNKNOWN).tear(column, 0);
    for (int v : new int[] {-1, 1, 63, 64, Wrong.MIN, Wrong.MAX}) y.refuses(UNKNOWN).tear(0, v);
    for (int v : new int[] {-1, 6, 7}) y.refuses(UNKNOWN).tear(1, v);
    for (int v : new int[] {16, 17, 64}) y.refuses(UNKNOWN).tear(2, v);
    y.due(1).tear(0, 0);
    y.refuses(STATE).tear(0, 0);
    y.due(1).tear(1, 5);
    y.refuses(STATE).tear(1, 5);
    y.due(2).tear(1, 4);
    y.due(1).tear(2, 15);
    y.refuses(STATE).tear(2, 15);
    y.due(15).mend(2);
    y.due(1).tear(2, 15);
  }

  private void mend() {
    s.promise(24, "The TORN VECTOR of a COLUMN is mended: which it was.");
    Run x = s.start();
    x.size(3, 32);
    x.design(3, 0, 3131L);
    for (int v : new int[] {0, 1, 31, 32, 60, 61}) {
      x.tear(3, v);
      x.due(v).mend(3);
      x.due(0).about(3, 4);
    }
    x.row(1, 2, 3, 0);
    x.tear(3, 31);
    x.refuses(0L).vector(3, 31);
    x.due(31).mend(3);
    x.due(1L).vector(3, 31);

    s.promise(24, "UNKNOWN; STATE: not just one is TORN.");
    Run y = s.start();
    for (int column : Wrong.COLUMNS) y.refuses(UNKNOWN).mend(column);
    for (int column = 0; column <= 3; column++) y.refuses(STATE).mend(column);
    y.tear(0, 5);
    for (int column = 1; column <= 3; column++) y.refuses(STATE).mend(column);
    y.tear(0, 6);
    y.refuses(STATE).mend(0);
    y.due(2).count(6);
    for (int v = 0; v <= 15; v++) if (v != 5 && v != 6) y.tear(0, v);
    y.refuses(STATE).mend(0);
    y.size(0, 16);
    y.refuses(STATE).mend(0);
    y.tear(0, 15);
    y.due(15).mend(0);
    y.refuses(STATE).mend(0);
  }

  private void parity() {
    s.promise(25, "PARITY.");
    Run x = s.start();
    for (int column = 0; column <= 3; column++) x.due(0L).parity(column);
    x.fill(9, 64);
    for (int column = 0; column <= 3; column++) x.due(-1L).parity(column);
    x.drop(63);
    x.drop(0);
    for (int column = 0; column <= 3; column++) x.due(Long.MAX_VALUE - 1L).parity(column);
    x.design(3, 1, 2020202L);
    x.design(1, 1, 603L);
    for (int column : new int[] {1, 3}) {
      long odd = 0L;
      for (int v = 0; v < x.about(column, 3); v++) odd ^= x.vector(column, v);
      x.due(odd).parity(column);
    }

    s.promise(25, "0 also: UNKNOWN.");
    Run y = s.start();
    y.fill(9, 64);
    for (int column : Wrong.COLUMNS) y.refuses(0L).parity(column);
  }
}
