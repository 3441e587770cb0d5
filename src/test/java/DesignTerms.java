/** What the terms tell of vectors, designs, and which vectors are read. */
final class DesignTerms {
  private static final int UNKNOWN = SlicedRows.UNKNOWN, OUTSIDE = SlicedRows.OUTSIDE, NONE = SlicedRows.NONE;
  private static final int EQUAL = 0, BELOW = 1;
  private final Sentences s;

  DesignTerms(Sentences s) {
    this.s = s;
  }

  void look() {
    vectorsAndPresent();
    bases();
    sorts();
    figures();
    vectorsOfFigures();
    numbering();
    readForFigures();
    readForColumns();
    readForAbove();
  }

  /** A column of this size whose rows are its numbers in turn, line 0 has 0. */
  private Run counting(int size, int sort, long bases) {
    Run x = s.start();
    x.size(0, size);
    x.design(0, sort, bases);
    for (int v = 0; v < size; v++) x.row(v, 0, 0, 0);
    return x;
  }

  private void vectorsAndPresent() {
    s.terms("A VECTOR has a bit for each LINE (bit i is LINE i's; 0 where no ROW is).");
    Run x = s.start();
    x.size(0, 2);
    x.size(1, 2);
    x.design(1, 1, 2L);
    for (int line = 0; line <= 63; line++) x.row(1, 0, 3, 4);
    x.due(-1L).vector(0, 0);
    x.due(-1L).vector(1, 0);
    x.due(-1L).vector(2, 3);
    long lines = -1L;
    for (int line : new int[] {0, 63, 31, 32, 33}) {
      x.drop(line);
      lines &= ~(1L << line);
      x.due(lines).vector(0, 0);
      x.due(lines).vector(1, 0);
      x.due(lines).vector(2, 3);
      x.due(0L).vector(2, 2);
    }
    x.row(0, 1, 2, 4);
    x.due(lines).vector(0, 0);
    x.due(1L).vector(2, 2);

    s.terms("PRESENT: the VECTOR of LINES that have a ROW; it is always there, and reading it costs nothing.");
    Run y = s.start();
    y.write("!a<0").due(0).ask();
    y.write("a<99").due(1).ask();
    y.due(0L).leaves(0);
    y.fill(1, 64);
    y.drop(0);
    y.drop(40);
    for (int column = 0; column <= 3; column++) for (int v = 0; v <= 15; v++) y.tear(column, v);
    for (int question = 0; question <= 1; question++) {
      y.due(0).asked(question, 0);
      y.due(0).asked(question, 2);
      y.due(62).asked(question, 3);
      y.due(~Due.lines(0, 40)).leaves(question);
    }
  }

  private void bases() {
    s.terms("A DESIGN of a COLUMN: BASES, the lowest figure's first, 1 to 5 of them, each 2 to 32, their product C at least, "
        + "but below C without any one of them");
    Run x = counting(16, 0, 802L);
    x.due(2).about(0, 10);
    x.due(8).about(0, 11);
    x.due(0xaaaaL).vector(0, 0);
    x.due(3L).vector(0, 1);
    // none, one, five, six
    Run y = s.start();
    y.size(0, 32);
    y.refuses(OUTSIDE).design(0, 0, 0L);
    y.due(32).design(0, 0, 32L);
    y.due(5).design(0, 0, 202020202L);
    y.due(5).design(0, 1, 202020202L);
    y.refuses(OUTSIDE).design(0, 0, 20202020202L);
    y.refuses(OUTSIDE).design(0, 1, 20202020202L);
    // BASES 1, 2, 32, 33, first and last
    y.refuses(OUTSIDE).design(0, 0, 3201L);
    y.refuses(OUTSIDE).design(0, 0, 132L);
    y.refuses(OUTSIDE).design(0, 0, 33L);
    y.refuses(OUTSIDE).design(0, 0, 99L);
    y.refuses(OUTSIDE).design(0, 0, 3302L);
    y.refuses(OUTSIDE).design(0, 1, 233L);
    y.size(0, 2);
    y.due(1).design(0, 0, 2L);
    y.due(32).design(0, 0, 32L);
    y.due(31).design(0, 1, 32L);
    y.refuses(OUTSIDE).design(0, 0, 1L);
    y.refuses(OUTSIDE).design(0, 0, 33L);
    // the product: 16 just does, 15 does not
    Run z = s.start();
    for (long enough : new long[] {16L, 17L, 404L, 802L, 208L, 603L, 2020202L, 40302L}) {
      s.holds(enough + " is a DESIGN", z.design(0, 0, enough) > 0);
    }
    for (long few : new long[] {15L, 2L, 503L, 305L, 702L, 20202L, 30202L}) z.refuses(OUTSIDE).design(0, 0, few);
    // 15 without any one of them does, 16 does not, be it the first, one in the midst or the last
    z.due(30).design(0, 0, 1515L);
    for (long needless : new long[] {1602L, 216L, 1616L, 40402L, 40204L, 20404L, 80202L, 20802L, 20208L}) {
      z.refuses(OUTSIDE).design(0, 1, needless);
    }
    z.size(0, 17);
    for (long just : new long[] {40402L, 40204L, 20404L}) z.due(9).design(0, 0, just);
    for (long just : new long[] {1602L, 216L}) z.due(16).design(0, 1, just);
  }

  private void sorts() {
    s.terms("and a SORT: 0 EACH, 1 UP TO.");
    Run x = counting(4, 0, 4L);
    x.due(0).about(0, 1);
    x.due(Due.lines(2)).vector(0, 2);
    x.due(3).design(0, 1, 4L);
    x.due(1).about(0, 1);
    x.due(Due.lines(0, 1, 2)).vector(0, 2);
    for (int sort : new int[] {-1, 2, 3, Wrong.MIN, Wrong.MAX}) x.refuses(OUTSIDE).design(0, sort, 4L);

    s.terms("(At first: one BASE C, EACH.)");
    Run y = s.start();
    for (int column = 0; column <= 3; column++) {
      int[] want = {16, 0, 1, 16, 0};
      for (int what = 0; what <= 4; what++) y.due(want[what]).about(column, what);
      y.due(16).about(column, 10);
      for (int what = 11; what <= 14; what++) y.due(NONE).about(column, what);
    }
  }

  private void figures() {
    s.terms("A number is told by figures: its lowest is the rest by the first BASE, and so on.");
    // 2, 3, 5 of EACH: VECTOR 0, VECTORS 1 to 3, VECTORS 4 to 8
    Run x = counting(30, 0, 50302L);
    long[] bits = new long[9];
    for (int v = 0; v < 30; v++) {
      if (v % 2 == 1) bits[0] |= 1L << v;
      bits[1 + v / 2 % 3] |= 1L << v;
      bits[4 + v / 6] |= 1L << v;
    }
    for (int v = 0; v <= 8; v++) x.due(bits[v]).vector(0, v);
    // 5, 3, 2 of the same numbers
    x.due(9).design(0, 0, 20305L);
    x.due(Due.lines(0, 5, 10, 15, 20, 25)).vector(0, 0);
    x.due(Due.lines(4, 9, 14, 19, 24, 29)).vector(0, 4);
    x.due(Due.lines(0, 1, 2, 3, 4, 15, 16, 17, 18, 19)).vector(0, 5);
    x.due(0x3fff8000L).vector(0, 8);
    // five figures: 31 is 1, 1, 1, 1, 1
    Run y = counting(32, 0, 202020202L);
    long all = -1L;
    for (int v = 0; v <= 4; v++) all &= y.vector(0, v);
    s.is("where all five figures are 1", all, 1L << 31);
  }

  private void vectorsOfFigures() {
    s.terms("VECTORS of a figure of BASE b, numbered from 0: EACH: b of them, VECTOR v where the figure is v");
    for (int b : new int[] {3, 4, 31, 32}) {
      Run x = counting(b, 0, b);
      x.due(b).about(0, 3);
      for (int v = 0; v < b; v++) x.due(1L << v).vector(0, v);
      x.refuses(0L).vector(0, b);
      x.refuses(UNKNOWN).tear(0, b);
    }
    // a BASE above SIZE has VECTORS of no number
    Run y = counting(2, 0, 32L);
    y.due(2L).vector(0, 1);
    y.due(0L).vector(0, 2);
    y.due(1).tear(0, 31);
    y.refuses(UNKNOWN).tear(0, 32);

    s.terms("but of BASE 2 only one: where it is 1.");
    Run z = counting(2, 0, 2L);
    z.due(1).about(0, 3);
    z.due(2L).vector(0, 0);
    z.refuses(0L).vector(0, 1);
    z.refuses(UNKNOWN).tear(0, 1);
    Run w = counting(8, 0, 20202L);
    w.due(3).about(0, 3);
    w.due(0xaaL).vector(0, 0);
    w.due(0xccL).vector(0, 1);
    w.due(0xf0L).vector(0, 2);

    s.terms("UP TO: b less 1, VECTOR v where the figure is v at most.");
    for (int b : new int[] {2, 3, 4, 31, 32}) {
      Run x = counting(b, 1, b);
      x.due(b - 1).about(0, 3);
      for (int v = 0; v < b - 1; v++) x.due((2L << v) - 1L).vector(0, v);
      x.refuses(0L).vector(0, b - 1);
      x.refuses(UNKNOWN).tear(0, b - 1);
    }
    Run v = counting(2, 1, 32L);
    v.due(1L).vector(0, 0);
    v.due(3L).vector(0, 1);
    v.due(3L).vector(0, 30);
    v.refuses(UNKNOWN).tear(0, 31);
  }

  private void numbering() {
    s.terms("VECTORS of a COLUMN are numbered through its figures, the lowest's first (64 at most: a DESIGN with more is none).");
    // 31, 31: the most there can be; figures of 30 are 30, 0, of 31 they are 0, 1
    Run x = counting(32, 0, 3131L);
    x.due(62).about(0, 3);
    x.due(Due.lines(30)).vector(0, 30);
    x.due(0x7fffffffL).vector(0, 31);
    x.due(Due.lines(31)).vector(0, 32);
    x.due(0L).vector(0, 61);
    x.due(1).tear(0, 61);
    x.refuses(UNKNOWN).tear(0, 62);
    x.refuses(UNKNOWN).tear(0, 64);
    x.refuses(OUTSIDE).design(0, 0, 3232L);
    x.refuses(OUTSIDE).design(0, 1, 3232L);
    x.refuses(OUTSIDE).design(0, 0, 323232L);
    x.due(1).about(0, 4);
    x.due(60).design(0, 1, 3131L);
    x.due(Due.lines(0, 31)).vector(0, 0);
    x.due(0x7fffffffL).vector(0, 30);
    x.due(0xffffffffL).vector(0, 31);

    s.terms("ROOM of a DESIGN: how many VECTORS.");
    Run y = s.start();
    y.size(0, 17);
    y.due(3 + 1 + 3).design(0, 0, 30203L);
    y.due(7).about(0, 3);
    y.due(2 + 1 + 2).design(0, 1, 30203L);
    y.due(5).about(0, 3);
    y.due(5 + 48).count(5);
    y.due(5).design(0, 0, 202020202L);
  }

  private void readForFigures() {
    s.terms("READ for \"figure = v\": EACH: VECTOR v (of BASE 2 the one).");
    for (int b : new int[] {3, 4, 31, 32}) {
      Run x = s.start();
      x.size(0, b);
      for (int v = 0; v < b; v++) x.due(1L << v).reads(0, EQUAL, v);
    }
    Run two = s.start();
    two.size(0, 2);
    two.due(1L).reads(0, EQUAL, 0);
    two.due(1L).reads(0, EQUAL, 1);

    s.terms("UP TO: v is 0: VECTOR 0; v is b less 1: VECTOR v less 1; else VECTORS v less 1 and v.");
    for (int b : new int[] {2, 3, 4, 31, 32}) {
      Run x = s.start();
      x.size(0, b);
      x.design(0, 1, b);
      x.due(1L).reads(0, EQUAL, 0);
      for (int v = 1; v < b - 1; v++) x.due(3L << (v - 1)).reads(0, EQUAL, v);
      x.due(1L << (b - 2)).reads(0, EQUAL, b - 1);
    }
    // v is SIZE less 1, but not b less 1
    Run more = s.start();
    more.size(0, 2);
    more.design(0, 1, 3L);
    more.due(3L).reads(0, EQUAL, 1);

    s.terms("For \"figure < v\" (v 1 to b less 1): EACH: VECTORS 0 to v less 1, or, if these are more than half of b, "
        + "VECTORS v to b less 1 (of BASE 2 the one).");
    for (int b : new int[] {3, 4, 5, 6, 31, 32}) {
      Run x = s.start();
      x.size(0, b);
      for (int v = 1; v < b; v++) {
        long lower = (1L << v) - 1L;
        long upper = (1L << b) - 1L - lower;
        x.due(v <= b / 2 ? lower : upper).reads(0, BELOW, v);
      }
    }
    Run bare = s.start();
    bare.size(0, 2);
    bare.due(1L).reads(0, BELOW, 1);
    bare.design(0, 0, 5L);
    bare.due(1L).reads(0, BELOW, 1);

    s.terms("UP TO: VECTOR v less 1.");
    for (int b : new int[] {2, 3, 31, 32}) {
      Run x = s.start();
      x.size(0, b);
      x.design(0, 1, b);
      for (int v = 1; v < b; v++) x.due(1L << (v - 1)).reads(0, BELOW, v);
    }
  }

  private void readForColumns() {
    s.terms("READ for \"COLUMN = c\": c below C: what \"figure = its figure\" reads of each figure; else nothing.");
    // 3, 2, 3 of SIZE 17, product 18: VECTORS 0 1 2, 3, 4 5 6; 16 is 1, 1, 2
    Run x = s.start();
    x.size(0, 17);
    x.design(0, 0, 30203L);
    x.due(1 + 8 + 16).reads(0, EQUAL, 0);
    x.due(2 + 8 + 64).reads(0, EQUAL, 16);
    for (int c : new int[] {17, 18, 32, 99}) x.due(0L).reads(0, EQUAL, c);
    x.design(0, 1, 30203L);
    // VECTORS 0 1, 2, 3 4
    x.due(1 + 4 + 8).reads(0, EQUAL, 0);
    x.due(3 + 4 + 16).reads(0, EQUAL, 16);
    x.due(0L).reads(0, EQUAL, 17);
    Run wide = s.start();
    wide.design(0, 0, 32L);
    wide.due(1L << 15).reads(0, EQUAL, 15);
    wide.due(0L).reads(0, EQUAL, 16);

    s.terms("For \"COLUMN < c\": c is 0, or C at least: nothing.");
    for (int sort = 0; sort <= 1; sort++) {
      Run y = s.start();
      y.size(0, 17);
      y.design(0, sort, 30203L);
      for (int c : new int[] {0, 17, 18, 19, 32, 99}) y.due(0L).reads(0, BELOW, c);
      s.holds("c is 1", y.reads(0, BELOW, 1) != 0L);
      s.holds("c is C less 1", y.reads(0, BELOW, 16) != 0L);
      y.design(0, sort, 32L);
      for (int c : new int[] {0, 17, 18, 31}) y.due(0L).reads(0, BELOW, c);
    }

    s.terms("Else from the lowest figure to the highest: what \"figure < c's figure\" reads, if that is not 0; "
        + "and, if anything was read for a lower figure, what \"figure = c's figure\" reads.");
    Run z = s.start();
    z.size(0, 17);
    z.design(0, 0, 30203L);
    z.due(1 + 8 + 16).reads(0, BELOW, 1);        // 1, 0, 0
    z.due(4 + 8 + 16).reads(0, BELOW, 2);        // 2, 0, 0
    z.due(8 + 16).reads(0, BELOW, 3);            // 0, 1, 0
    z.due(1 + 8 + 16).reads(0, BELOW, 4);        // 1, 1, 0
    z.due(16).reads(0, BELOW, 6);                // 0, 0, 1: nothing lower, so "<" alone
    z.due(1 + 8 + 16 + 32).reads(0, BELOW, 7);   // 1, 0, 1
    z.due(64).reads(0, BELOW, 12);               // 0, 0, 2
    z.due(8 + 64).reads(0, BELOW, 15);           // 0, 1, 2
    z.due(1 + 8 + 64).reads(0, BELOW, 16);       // 1, 1, 2
    z.design(0, 1, 30203L);
    z.due(1 + 4 + 8).reads(0, BELOW, 1);
    z.due(2 + 4 + 8).reads(0, BELOW, 2);
    z.due(4 + 8).reads(0, BELOW, 3);
    z.due(8).reads(0, BELOW, 6);
    z.due(1 + 4 + 8 + 16).reads(0, BELOW, 7);
    z.due(16).reads(0, BELOW, 12);
    z.due(4 + 16).reads(0, BELOW, 15);
    z.due(1 + 4 + 16).reads(0, BELOW, 16);
  }

  /** The vectors that a question reads, found by tearing one after the other. */
  private static long foundTorn(Run x, int question, int room) {
    long read = 0L;
    for (int v = 0; v < room; v++) {
      x.tear(0, v);
      if (x.asked(question, 2) == 1) read |= 1L << v;
      x.mend(0);
    }
    return read;
  }

  private void readForAbove() {
    s.terms("\"COLUMN > c\" reads what \"COLUMN < c and 1\" does.");
    Run x = s.start();
    x.size(0, 17);
    x.design(0, 0, 30203L);
    String[] texts = {"a>0", "a>1", "a>5", "a>6", "a>15", "a>16", "a>17", "a>99"};
    long[] want = {1 + 8 + 16, 4 + 8 + 16, 16, 1 + 8 + 16 + 32, 1 + 8 + 64, 0, 0, 0};
    for (int q = 0; q < texts.length; q++) {
      x.write(texts[q]).due(q).ask();
      x.due(Long.bitCount(want[q])).asked(q, 0);
      s.is(texts[q] + " reads", foundTorn(x, q, 7), want[q]);
    }
  }
}
