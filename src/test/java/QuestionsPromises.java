/** What questions tell, and promises 18 to 22: leaves, asked, sum, least, group. */
final class QuestionsPromises {
  private static final int NONE = SlicedRows.NONE, UNKNOWN = SlicedRows.UNKNOWN, OUTSIDE = SlicedRows.OUTSIDE,
      STATE = SlicedRows.STATE;
  private final Sentences s;

  QuestionsPromises(Sentences s) {
    this.s = s;
  }

  void look() {
    ofWhatIsLeft();
    leaves();
    asked();
    sum();
    least();
    group();
  }

  /** Six rows and three questions: of some rows, of none, of all. */
  private Run six() {
    Run x = s.start();
    x.row(0, 5, 1, 9);
    x.row(1, 4, 1, 0);
    x.row(2, 3, 0, 0);
    x.row(3, 2, 0, 7);
    x.row(4, 1, 1, 7);
    x.row(5, 0, 1, 15);
    x.ask("c=1");
    x.ask("a=9");
    x.ask("a<99");
    return x;
  }

  /** The same, but question 0 fails. */
  private Run torn() {
    Run x = six();
    x.tear(2, 1);
    return x;
  }

  private Run full() {
    Run x = s.start();
    x.size(0, 32);
    for (int line = 0; line <= 63; line++) x.row(31, line % 16, 0, 0);
    x.ask("c=0");
    return x;
  }

  private void ofWhatIsLeft() {
    s.terms("Of what a QUESTION LEAVES: the SUM of a COLUMN, how many, the k-th least (by number, then LINE), "
        + "how many of each number of a COLUMN.");
    Run x = six();
    x.due(9 + 0 + 7 + 15).sum(0, 3);
    x.due(4).asked(0, 3);
    int[] byD = {1, 4, 0, 5};
    for (int k = 0; k < byD.length; k++) x.due(byD[k]).least(0, 3, k);
    int[] all = {1, 2, 3, 4, 0, 5};
    for (int k = 0; k < all.length; k++) x.due(all[k]).least(2, 3, k);
    for (int v = 0; v <= 15; v++) x.due(v == 0 || v == 7 || v == 9 || v == 15 ? 1 : 0).group(0, 3, v);
    for (int v = 0; v <= 15; v++) x.due(v == 0 || v == 7 ? 2 : v == 9 || v == 15 ? 1 : 0).group(2, 3, v);
  }

  private void leaves() {
    s.promise(18, "What a QUESTION LEAVES, as bits.");
    Run x = six();
    x.due(Due.lines(0, 1, 4, 5)).leaves(0);
    x.due(0L).leaves(1);
    x.due(63L).leaves(2);
    Run y = full();
    y.due(-1L).leaves(0);
    y.drop(63);
    y.due(Long.MAX_VALUE).leaves(0);

    s.promise(18, "0 also: UNKNOWN, it FAILS.");
    Run z = torn();
    for (int question : Wrong.QUESTIONS) z.refuses(0L).leaves(question);
    z.refuses(0L).leaves(3);
    z.refuses(0L).leaves(0);
    z.due(63L).leaves(2);
    z.mend(2);
    z.due(Due.lines(0, 1, 4, 5)).leaves(0);
    s.start().refuses(0L).leaves(0);
  }

  private void asked() {
    s.promise(19, "READS (what = 0), how many comparisons (1), whether it FAILS (2: 1, 0), how many LINES it LEAVES (3; STATE: it FAILS).");
    Run x = six();
    x.ask("a<3&b>12|d=0&a=1");
    int[] want = {3 + 3 + 1, 4, 0, 1};
    for (int what = 0; what <= 3; what++) x.due(want[what]).asked(3, what);
    x.tear(0, 2);
    int[] then = {7, 4, 1};
    for (int what = 0; what <= 2; what++) x.due(then[what]).asked(3, what);
    x.refuses(STATE).asked(3, 3);
    x.due(0).asked(1, 2);
    x.due(0).asked(1, 3);
    x.due(6).asked(2, 3);
    x.mend(0);
    x.due(0).asked(3, 2);
    x.due(1).asked(3, 3);
    Run y = full();
    y.due(64).asked(0, 3);
    // a comparison that is told twice counts twice
    Run z = s.start();
    z.ask("a=1|a=1|a=1");
    z.ask("a=1|".repeat(14) + "a=1");
    z.due(3).asked(0, 1);
    z.due(1).asked(0, 0);
    z.due(15).asked(1, 1);

    s.promise(19, "UNKNOWN; OUTSIDE.");
    Run w = torn();
    for (int question : Wrong.QUESTIONS) for (int what : new int[] {0, 3, 4, -1}) w.refuses(UNKNOWN).asked(question, what);
    w.refuses(UNKNOWN).asked(3, 0);
    for (int what : new int[] {-1, 4, 5, Wrong.MIN, Wrong.MAX}) {
      w.refuses(OUTSIDE).asked(0, what);
      w.refuses(OUTSIDE).asked(2, what);
    }
  }

  private void sum() {
    s.promise(20, "The SUM of a COLUMN over what it LEAVES.");
    Run x = six();
    x.due(0 + 1 + 4 + 5).sum(0, 0);
    x.due(5 + 4 + 1 + 0).sum(0, 1);
    x.due(4).sum(0, 2);
    for (int column = 0; column <= 3; column++) x.due(0).sum(1, column);
    x.due(38).sum(2, 3);
    Run y = full();
    y.due(64 * 31).sum(0, 0);
    y.drop(63);
    y.due(63 * 31).sum(0, 0);
    // a TORN COLUMN that the QUESTION does not read
    Run z = six();
    for (int v = 0; v <= 15; v++) z.tear(3, v);
    z.due(31).sum(0, 3);

    s.promise(20, "UNKNOWN: question, column; STATE: it FAILS.");
    Run w = torn();
    for (int question : Wrong.QUESTIONS) w.refuses(UNKNOWN).sum(question, 0);
    w.refuses(UNKNOWN).sum(3, 0);
    for (int column : Wrong.COLUMNS) {
      w.refuses(UNKNOWN).sum(0, column);
      w.refuses(UNKNOWN).sum(2, column);
    }
    for (int column = 0; column <= 3; column++) w.refuses(STATE).sum(0, column);
    w.due(0).sum(1, 0);
    w.tear(2, 0);
    w.refuses(STATE).sum(0, 0);
    w.design(2, 0, 16L);
    w.due(10).sum(0, 0);
  }

  private void least() {
    s.promise(21, "The LINE of the k-th least (from 0) of a COLUMN over what it LEAVES; NONE.");
    Run x = six();
    x.due(5).least(0, 1, 0);
    x.due(0).least(0, 1, 3);
    for (int k : new int[] {4, 5, 63, 64, Wrong.MAX}) x.due(NONE).least(0, 1, k);
    for (int k : new int[] {-1, -64, Wrong.MIN}) x.due(NONE).least(0, 1, k);
    x.due(NONE).least(1, 0, 0);
    Run y = full();
    y.due(0).least(0, 0, 0);
    y.due(63).least(0, 0, 63);
    y.due(NONE).least(0, 0, 64);
    for (int k = 0; k <= 63; k++) y.due(k / 4 + 16 * (k % 4)).least(0, 1, k);
    // a TORN COLUMN that the QUESTION does not read
    for (int v = 0; v <= 15; v++) y.tear(1, v);
    y.due(16).least(0, 1, 1);

    s.promise(21, "UNKNOWN; STATE: it FAILS.");
    Run z = torn();
    for (int question : Wrong.QUESTIONS) z.refuses(UNKNOWN).least(question, 0, 0);
    z.refuses(UNKNOWN).least(3, 0, 0);
    for (int column : Wrong.COLUMNS) for (int k : new int[] {0, -1}) z.refuses(UNKNOWN).least(0, column, k);
    for (int k : new int[] {0, 3, 4, -1, Wrong.MAX, Wrong.MIN}) z.refuses(STATE).least(0, 0, k);
    z.due(0).least(2, 0, 0);
    z.mend(2);
    z.due(0).least(0, 0, 0);
  }

  private void group() {
    s.promise(22, "How many that it LEAVES have v in a COLUMN.");
    Run x = six();
    x.due(4).group(0, 2, 1);
    x.due(0).group(0, 2, 0);
    x.due(2).group(2, 2, 0);
    x.due(1).group(0, 3, 15);
    x.due(0).group(1, 0, 9);
    Run y = full();
    y.due(64).group(0, 0, 31);
    y.due(0).group(0, 0, 0);
    y.due(4).group(0, 1, 15);
    for (int v = 0; v <= 15; v++) y.tear(1, v);
    y.due(4).group(0, 1, 0);

    s.promise(22, "UNKNOWN; OUTSIDE: v; STATE: it FAILS.");
    Run z = torn();
    for (int question : Wrong.QUESTIONS) z.refuses(UNKNOWN).group(question, 0, 0);
    z.refuses(UNKNOWN).group(3, 0, 99);
    for (int column : Wrong.COLUMNS) for (int v : new int[] {0, -1}) z.refuses(UNKNOWN).group(0, column, v);
    for (int v : new int[] {-1, 16, 31, Wrong.MIN, Wrong.MAX}) {
      z.refuses(OUTSIDE).group(0, 0, v);
      z.refuses(OUTSIDE).group(2, 3, v);
    }
    z.refuses(STATE).group(0, 0, 0);
    z.refuses(STATE).group(0, 0, 15);
    z.due(1).group(2, 3, 15);
  }
}
