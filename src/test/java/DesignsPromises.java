/** Cost and best designs, and promises 8 to 13: design, about, vector, reads, cost, best. */
final class DesignsPromises {
  private static final int NONE = SlicedRows.NONE, UNKNOWN = SlicedRows.UNKNOWN, OUTSIDE = SlicedRows.OUTSIDE,
      STATE = SlicedRows.STATE;
  private static final int[] WHATS_OF_BEST = {0, 1, 2, 3, 10, 11, 12, 13, 14};
  private final Sentences s;

  DesignsPromises(Sentences s) {
    this.s = s;
  }

  void look() {
    design();
    designRefused();
    about();
    vector();
    reads();
    cost();
    bestByTerms();
    best();
    bestRefused();
  }

  private void design() {
    s.promise(8, "A DESIGN of a COLUMN: SORT, and BASES told as figures of base 100, the first BASE lowest (0: no more): its ROOM");
    Run x = s.start();
    x.size(0, 32);
    x.due(4 + 2).design(0, 1, 302020202L);
    int[] five = {2, 2, 2, 2, 3};
    for (int i = 0; i < 5; i++) x.due(five[i]).about(0, 10 + i);
    x.due(31 + 1).design(0, 0, 231L);
    x.due(31).about(0, 10);
    x.due(2).about(0, 11);
    for (int what = 12; what <= 14; what++) x.due(NONE).about(0, what);
    x.due(32).design(0, 0, 32L);
    x.due(1).about(0, 2);
    x.due(NONE).about(0, 11);
    x.due(31).design(0, 1, 32L);
    x.due(31).design(0, 1, 32L);
    // of that COLUMN alone
    for (int column = 1; column <= 3; column++) x.due(16).about(column, 3);
    // ROWS and MARKS are no hindrance, nor is it a CHANGE
    x.due(0).row(31, 3, 3, 3);
    x.mark();
    x.due(10).design(0, 1, 804L);
    x.due(31).get(0, 0);
    x.due(1).count(3);
    x.due(0).undo();
    x.due(10).about(0, 3);

    s.promise(8, "nothing of the COLUMN is TORN then");
    Run y = s.start();
    y.tear(0, 0);
    y.tear(0, 15);
    y.tear(1, 0);
    y.due(16).design(0, 0, 16L);
    y.due(0).about(0, 4);
    y.due(1).about(1, 4);
    y.due(1).tear(0, 15);
    y.due(8).design(0, 0, 404L);
    y.due(0).about(0, 4);
    y.refuses(STATE).mend(0);
  }

  private void designRefused() {
    s.promise(8, "UNKNOWN: column");
    Run x = s.start();
    for (int column : Wrong.COLUMNS) {
      x.refuses(UNKNOWN).design(column, 0, 16L);
      x.refuses(UNKNOWN).design(column, 2, 16L);
      x.refuses(UNKNOWN).design(column, 0, 0L);
    }

    s.promise(8, "OUTSIDE: sort, it is no DESIGN.");
    Run y = s.start();
    y.design(0, 1, 404L);
    y.tear(0, 3);
    for (int sort : new int[] {-1, 2, Wrong.MIN, Wrong.MAX}) y.refuses(OUTSIDE).design(0, sort, 404L);
    for (int sort = 0; sort <= 1; sort++) {
      for (long no : new long[] {0L, -1L, -16L, -404L, Long.MIN_VALUE, Long.MAX_VALUE, 15L, 33L, 1601L, 1600L, 1602L}) {
        y.refuses(OUTSIDE).design(0, sort, no);
      }
      // a BASE behind a 0; one that only the lower 32 binary figures would hide
      for (long no : new long[] {40004L, 160000L, 1600000000L, 4000000000004L, 16L + (1L << 32), 404L + (1L << 40)}) {
        y.refuses(OUTSIDE).design(0, sort, no);
      }
    }
    int[] want = {16, 1, 2, 6, 1};
    for (int what = 0; what <= 4; what++) y.due(want[what]).about(0, what);
    y.due(3).mend(0);
  }

  private void about() {
    s.promise(9, "Of a COLUMN: what = 0 SIZE, 1 SORT, 2 how many BASES, 3 ROOM, 4 how many VECTORS are TORN, "
        + "10 and i its i-th BASE (NONE).");
    Run x = s.start();
    x.size(3, 32);
    x.design(3, 1, 302020202L);
    for (int v = 0; v <= 5; v++) x.tear(3, v);
    int[] want = {32, 1, 5, 6, 6};
    for (int what = 0; what <= 4; what++) x.due(want[what]).about(3, what);
    int[] bases = {2, 2, 2, 2, 3};
    for (int i = 0; i <= 4; i++) x.due(bases[i]).about(3, 10 + i);
    x.design(3, 0, 804L);
    x.due(4).about(3, 10);
    x.due(8).about(3, 11);
    for (int i = 2; i <= 4; i++) x.due(NONE).about(3, 10 + i);
    x.due(16).about(0, 10);
    x.due(NONE).about(0, 11);

    s.promise(9, "UNKNOWN; OUTSIDE: what (10 to 14 else).");
    Run y = s.start();
    for (int column : Wrong.COLUMNS) for (int what : new int[] {0, 14, 99}) y.refuses(UNKNOWN).about(column, what);
    for (int column = 0; column <= 3; column++) {
      for (int what : new int[] {-1, 5, 6, 9, 15, 16, Wrong.MAX, Wrong.MIN, Wrong.MIN + 10}) y.refuses(OUTSIDE).about(column, what);
    }
  }

  private void vector() {
    s.promise(10, "A VECTOR, as bits.");
    Run x = s.start();
    x.size(0, 6);
    x.size(1, 6);
    x.due(4).design(0, 0, 302L);
    x.due(3).design(1, 1, 203L);
    x.due(0L).vector(0, 0);
    x.due(0L).vector(1, 1);
    for (int v = 0; v < 6; v++) x.row(v, v, 15, 0);
    long[] each = {Due.lines(1, 3, 5), Due.lines(0, 1), Due.lines(2, 3), Due.lines(4, 5)};
    long[] upTo = {Due.lines(0, 3), Due.lines(0, 1, 3, 4), Due.lines(0, 1, 2)};
    for (int v = 0; v < each.length; v++) x.due(each[v]).vector(0, v);
    for (int v = 0; v < upTo.length; v++) x.due(upTo[v]).vector(1, v);
    x.due(63L).vector(2, 15);
    x.set(5, 0, 0);
    x.due(Due.lines(1, 3)).vector(0, 0);
    x.due(Due.lines(0, 1, 5)).vector(0, 1);
    x.drop(0);
    x.due(Due.lines(1, 5)).vector(0, 1);
    x.due(Due.lines(1, 2)).vector(1, 2);

    s.promise(10, "0 also: UNKNOWN, it is TORN.");
    Run y = s.start();
    y.fill(1, 64);
    for (int column : Wrong.COLUMNS) y.refuses(0L).vector(column, 0);
    y.design(0, 1, 16L);
    y.due(-1L).parity(1);
    for (int v : new int[] {-1, 15, 16, 63, 64, Wrong.MIN, Wrong.MAX}) y.refuses(0L).vector(0, v);
    long last = y.vector(0, 14);
    s.holds("the last has bits", last != 0L);
    y.tear(0, 14);
    y.refuses(0L).vector(0, 14);
    s.holds("the one before it is not TORN", y.vector(0, 13) != 0L);
    y.mend(0);
    y.due(last).vector(0, 14);
  }

  private void reads() {
    s.promise(11, "Which VECTORS are read for \"COLUMN = c\" (how = 0), \"COLUMN < c\" (1), as bits.");
    Run x = s.start();
    x.size(0, 32);
    x.due(1L << 31).reads(0, 0, 31);
    x.due(0xffffL).reads(0, 1, 16);
    x.due(0xfffe0000L).reads(0, 1, 17);
    // 31, 31: 31 is 0, 1; VECTORS 0 to 30, 31 to 61
    x.design(0, 0, 3131L);
    x.due(1L + (1L << 32)).reads(0, 0, 31);
    x.due(1L << 31).reads(0, 1, 31);
    x.due((1L << 30) + (1L << 31)).reads(0, 1, 30);
    x.design(0, 1, 3131L);
    // UP TO: VECTORS 0 to 29, 30 to 59
    x.due(1L + (1L << 30) + (1L << 31)).reads(0, 0, 31);
    x.due(1L << 30).reads(0, 1, 31);
    x.tear(0, 0);
    x.due(1L + (1L << 30) + (1L << 31)).reads(0, 0, 31);

    s.promise(11, "0 also: UNKNOWN: column; how, c (0 to 99) are not so.");
    Run y = s.start();
    for (int column : Wrong.COLUMNS) for (int how = 0; how <= 1; how++) y.refuses(0L).reads(column, how, 1);
    for (int how : new int[] {-1, 2, Wrong.MIN, Wrong.MAX}) y.refuses(0L).reads(0, how, 1);
    for (int c : new int[] {-1, 100, Wrong.MIN, Wrong.MAX}) for (int how = 0; how <= 1; how++) y.refuses(0L).reads(0, how, c);
    for (int c : new int[] {16, 99}) for (int how = 0; how <= 1; how++) y.due(0L).reads(0, how, c);
    y.due(1L).reads(0, 0, 0);
    y.due(1L).reads(0, 1, 1);
  }

  private void cost() {
    s.terms("THE COST of a DESIGN for a COLUMN, with weights e, l (0 to 9): e times what all \"COLUMN = c\" (c 0 to C less 1) read, "
        + "and l times what all \"COLUMN < c\" (c 1 to C less 1) do, together.");
    int[][] wants = {{2, 1}, {3, 1 + 1}, {4, 1 + 2 + 1}, {5, 1 + 2 + 2 + 1}};
    int[][] upTo = {{2, 1}, {1 + 2 + 1, 2}, {1 + 2 + 2 + 1, 3}, {1 + 2 + 2 + 2 + 1, 4}};
    for (int c = 2; c <= 5; c++) {
      for (int sort = 0; sort <= 1; sort++) {
        int[] want = sort == 0 ? wants[c - 2] : upTo[c - 2];
        Run x = s.start();
        x.size(0, c);
        x.design(0, sort, c);
        for (int[] w : new int[][] {{0, 0}, {1, 0}, {0, 1}, {9, 9}, {9, 0}, {0, 9}, {2, 3}}) {
          x.due(w[0] * want[0] + w[1] * want[1]).cost(0, w[0], w[1]);
        }
      }
    }
    long[] designs = {32L, 3131L, 804L, 408L, 50605L, 202020202L, 302020202L, 202020302L, 3030303L, 1717L, 217L, 1702L};
    for (long bases : designs) {
      for (int sort = 0; sort <= 1; sort++) costAsRead(sort, bases);
    }

    s.promise(12, "COST of a COLUMN's DESIGN.");
    Run x = s.start();
    x.size(3, 4);
    x.design(3, 0, 202L);
    // "=" reads 2 each; "<" reads 2, 1, 2
    x.due(8).cost(3, 1, 0);
    x.due(5).cost(3, 0, 1);
    x.tear(3, 0);
    x.due(13).cost(3, 1, 1);
    x.due(16).cost(2, 1, 0);

    s.promise(12, "UNKNOWN; OUTSIDE: e, l.");
    Run y = s.start();
    for (int column : Wrong.COLUMNS) y.refuses(UNKNOWN).cost(column, 1, 1);
    y.refuses(UNKNOWN).cost(4, 10, 10);
    for (int w : Wrong.WEIGHTS) {
      y.refuses(OUTSIDE).cost(0, w, 1);
      y.refuses(OUTSIDE).cost(3, 1, w);
    }
    y.due(9 * 16).cost(0, 9, 0);
  }

  private void costAsRead(int sort, long bases) {
    Run x = s.start();
    x.size(1, 32);
    if (x.design(1, sort, bases) < 0) s.holds(bases + " is a DESIGN", false);
    int equal = 0;
    int below = 0;
    for (int c = 0; c < 32; c++) equal += Long.bitCount(x.reads(1, 0, c));
    for (int c = 1; c < 32; c++) below += Long.bitCount(x.reads(1, 1, c));
    x.due(2 * equal + 5 * below).cost(1, 2, 5);
  }

  /** What best() tells of one design: cost, room, sort, how many bases, and these. */
  private void told(int size, int room, int e, int l, int... want) {
    Run x = s.start();
    x.size(2, size);
    for (int i = 0; i < WHATS_OF_BEST.length; i++) {
      x.due(i < want.length ? want[i] : NONE).best(2, room, e, l, WHATS_OF_BEST[i]);
    }
    x.due(size).about(2, 10);
  }

  private void bestByTerms() {
    s.terms("THE BEST DESIGN within ROOM r (1 to 64): of all with ROOM r at most the one of least COST");
    told(2, 1, 9, 9, 27, 1, 0, 1, 2);
    told(4, 2, 1, 1, 13, 2, 0, 2, 2, 2);
    told(4, 3, 1, 1, 9, 3, 1, 1, 4);
    told(32, 5, 1, 1, 32 * 5 + 16 * 5 + 8 * 4 + 4 * 3 + 2 * 2 + 1, 5, 0, 5, 2, 2, 2, 2, 2);
    told(32, 30, 1, 0, 64, 12, 0, 2, 4, 8);
    told(32, 31, 0, 1, 31, 31, 1, 1, 32);
    told(32, 31, 1, 0, 32 * 2 - 2, 31, 1, 1, 32);
    told(32, 32, 1, 0, 32, 32, 0, 1, 32);
    told(32, 64, 9, 0, 9 * 32, 32, 0, 1, 32);

    s.terms("of like ones of least ROOM");
    // EACH of 3 costs as much as UP TO of 3
    told(3, 64, 0, 1, 2, 2, 1, 1, 3);
    // whatever BASE is put for 2, it costs 1
    told(2, 64, 0, 1, 1, 1, 0, 1, 2);
    told(12, 64, 0, 0, 0, 4, 0, 4, 2, 2, 2, 2);

    s.terms("of like ones SORT 0");
    told(2, 1, 0, 1, 1, 1, 0, 1, 2);
    told(4, 2, 1, 0, 8, 2, 0, 2, 2, 2);
    told(32, 5, 0, 9, 9 * 129, 5, 0, 5, 2, 2, 2, 2, 2);

    s.terms("of like ones of fewest BASES");
    // no two like ones differ in this alone, so only that these are told rightly can be seen
    told(16, 4, 0, 0, 0, 4, 0, 4, 2, 2, 2, 2);
    told(17, 16, 0, 0, 0, 5, 0, 5, 2, 2, 2, 2, 2);

    s.terms("of like ones whose first BASE is least, then the second, and so on");
    told(5, 3, 0, 1, 7, 3, 1, 2, 2, 3);
    told(11, 4, 0, 1, 26, 4, 1, 3, 2, 2, 3);
    told(23, 5, 0, 1, 77, 5, 1, 4, 2, 2, 2, 3);

    s.terms("none: there is none.");
    told(3, 1, 1, 1, NONE, NONE, NONE, NONE);
    told(32, 4, 0, 0, NONE, NONE, NONE, NONE);
    told(17, 4, 9, 9, NONE, NONE, NONE, NONE);
    told(16, 4, 0, 0, 0, 4, 0, 4, 2, 2, 2, 2);
  }

  private void best() {
    s.promise(13, "THE BEST DESIGN of a COLUMN: what = 0 COST, 1 ROOM, 2 SORT, 3 how many BASES, 10 and i its i-th BASE (0 to 4); "
        + "NONE: there is none.");
    told(16, 8, 2, 3, 175, 8, 1, 2, 2, 8);
    told(32, 5, 0, 1, 129, 5, 0, 5, 2, 2, 2, 2, 2);
    told(16, 3, 1, 1);
    // by SIZE alone: neither its DESIGN nor what is TORN matters, nor does best() alter them
    Run x = s.start();
    x.size(1, 4);
    x.design(0, 1, 404L);
    x.tear(0, 2);
    x.due(175).best(0, 8, 2, 3, 0);
    x.due(2).best(1, 2, 0, 0, 1);
    x.due(1).about(0, 4);
    x.due(4).about(0, 11);
    x.due(2).count(7);
    bestAgain();
  }

  /** One search after another on one object: nothing of the one before is left. */
  private void bestAgain() {
    Run x = s.start();
    x.size(1, 5);
    x.due(32).best(0, 64, 2, 0, 0);
    x.due(NONE).best(0, 3, 2, 0, 0);
    x.due(NONE).best(0, 3, 2, 0, 10);
    x.due(144).best(0, 64, 9, 0, 0);
    x.due(16).best(0, 64, 9, 0, 1);
    x.due(2).best(1, 3, 0, 1, 10);
    x.due(3).best(1, 3, 0, 1, 11);
    x.due(5).best(1, 64, 1, 0, 10);
    x.due(NONE).best(1, 64, 1, 0, 11);
    x.due(4).best(0, 4, 0, 0, 3);
    x.due(1).best(1, 64, 1, 0, 3);
  }

  private void bestRefused() {
    s.promise(13, "UNKNOWN: column; OUTSIDE: room, e, l, what; STATE: it was done 30 times.");
    Run x = s.start();
    for (int column : Wrong.COLUMNS) {
      x.refuses(UNKNOWN).best(column, 9, 1, 1, 0);
      x.refuses(UNKNOWN).best(column, 0, 10, 10, 99);
    }
    for (int room : new int[] {0, -1, 65, Wrong.MIN, Wrong.MAX}) x.refuses(OUTSIDE).best(0, room, 1, 1, 0);
    for (int w : Wrong.WEIGHTS) {
      x.refuses(OUTSIDE).best(0, 9, w, 1, 0);
      x.refuses(OUTSIDE).best(0, 9, 1, w, 0);
    }
    for (int what : new int[] {-1, 4, 9, 15, Wrong.MIN, Wrong.MAX}) x.refuses(OUTSIDE).best(0, 9, 1, 1, what);
    x.due(0).count(7);
    x.due(NONE).best(0, 1, 0, 0, 0);
    x.due(NONE).best(0, 64, 9, 0, 14);
    x.due(2).count(7);
    for (int done = 3; done <= 30; done++) x.due(16).best(done % 4, 64, 1, 0, 0);
    x.due(30).count(7);
    x.refuses(STATE).best(0, 64, 1, 0, 0);
    x.refuses(STATE).best(0, 1, 0, 0, 0);
    x.refuses(OUTSIDE).best(0, 65, 1, 0, 0);
    x.refuses(OUTSIDE).best(0, 64, 1, 0, 4);
    x.refuses(UNKNOWN).best(4, 64, 1, 0, 0);
    x.due(30).count(7);
  }
}
