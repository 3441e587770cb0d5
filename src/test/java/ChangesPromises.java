/** Changes, marks and refusals, and promises 30 to 32: undo, mark, back. */
final class ChangesPromises {
  private static final int NONE = SlicedRows.NONE, UNKNOWN = SlicedRows.UNKNOWN, OUTSIDE = SlicedRows.OUTSIDE,
      STATE = SlicedRows.STATE, FULL = SlicedRows.FULL;
  private final Sentences s;

  ChangesPromises(Sentences s) {
    this.s = s;
  }

  void look() {
    changes();
    marks();
    whatStays();
    refusals();
    undo();
    mark();
    back();
  }

  private void changes() {
    s.terms("CHANGES (100 at most are kept, the latest): ROWS that came, went, were altered; UNDO takes the latest back.");
    // just 100: all are taken back
    Run x = s.start();
    x.fill(1, 64);
    for (int line = 0; line <= 35; line++) x.drop(line);
    x.due(100).count(3);
    for (int left = 99; left >= 0; left--) x.due(left).undo();
    x.due(0).count(0);
    x.refuses(STATE).undo();
    // 101: the first ROW stays
    Run y = s.start();
    y.fill(1, 64);
    for (int line = 0; line <= 36; line++) y.drop(line);
    y.due(100).count(3);
    for (int left = 99; left >= 0; left--) y.due(left).undo();
    y.due(1).count(0);
    y.due(NONE).get(1, 0);
    s.holds("LINE 0 has a ROW", y.get(0, 0) >= 0);
    y.refuses(STATE).undo();
    // what is one, what is none
    Run z = s.start();
    z.due(0).row(1, 2, 3, 4);
    z.due(1).count(3);
    z.due(3).fill(7, 3);
    z.due(4).count(3);
    z.due(1).set(0, 0, 1);
    z.due(5).count(3);
    z.due(3).drop(0);
    z.due(6).count(3);
    z.design(0, 1, 404L);
    z.tear(1, 1);
    z.mend(1);
    z.ask("a=1");
    z.write("b");
    z.blank();
    z.best(0, 9, 1, 1, 0);
    z.order(0);
    z.mark();
    z.due(6).count(3);
    z.due(5).undo();
    int[] row = {1, 2, 3, 4};
    for (int column = 0; column <= 3; column++) z.due(row[column]).get(0, column);
    changesUndoneAndMadeAnew();
  }

  /** COLUMN 0 of the ROW counts the CHANGES, modulo 16. */
  private void changesUndoneAndMadeAnew() {
    Run x = s.start();
    x.row(0, 0, 0, 0);
    for (int i = 1; i <= 130; i++) x.set(0, 0, i % 16);
    x.due(100).count(3);
    for (int i = 129; i >= 60; i--) undone(x, i, i - 30);
    for (int i = 61; i <= 120; i++) x.set(0, 0, i % 16);
    x.due(90).count(3);
    for (int i = 119; i >= 100; i--) undone(x, i, i - 30);
    for (int i = 101; i <= 140; i++) x.set(0, 0, i % 16);
    x.due(100).count(3);
    for (int i = 139; i >= 130; i--) undone(x, i, i - 40);
  }

  private static void undone(Run x, int i, int kept) {
    x.due(kept).undo();
    if (i % 5 == 0) x.due(i % 16).get(0, 0);
  }

  private void marks() {
    s.terms("MARKS (3 at most): THE TABLE's ROWS are kept");
    Run x = s.start();
    x.due(1).mark();
    x.row(1, 2, 3, 4);
    x.due(2).mark();
    x.set(0, 3, 15);
    x.fill(3, 63);
    x.set(63, 0, 9);
    x.due(3).mark();
    x.refuses(FULL).mark();
    for (int line = 0; line <= 63; line++) x.drop(line);
    x.due(64).back(2);
    x.due(9).get(63, 0);
    x.due(15).get(0, 3);
    x.due(1).back(1);
    int[] row = {1, 2, 3, 4};
    for (int column = 0; column <= 3; column++) x.due(row[column]).get(0, column);
    x.due(NONE).get(63, 0);
    x.due(0).back(0);
    x.due(NONE).get(0, 0);

    s.terms("BACK to one: they are as then; marks behind it, and all CHANGES kept, are gone.");
    Run y = s.start();
    y.row(1, 1, 1, 1);
    y.mark();
    y.set(0, 0, 2);
    y.mark();
    y.set(0, 0, 3);
    y.mark();
    y.set(0, 0, 4);
    y.due(4).count(3);
    y.due(1).back(1);
    y.due(2).get(0, 0);
    y.due(2).count(4);
    y.refuses(UNKNOWN).back(2);
    y.due(0).count(3);
    y.refuses(STATE).undo();
    // the mark itself stays, and a new one comes behind it
    y.set(0, 0, 5);
    y.due(1).back(1);
    y.due(2).get(0, 0);
    y.set(0, 0, 6);
    y.due(3).mark();
    y.refuses(FULL).mark();
    y.due(1).back(0);
    y.due(1).get(0, 0);
    y.due(1).count(4);
    y.refuses(UNKNOWN).back(1);
    // back to a table that is as it was: the CHANGES are gone all the same
    y.set(0, 0, 1);
    y.due(1).back(0);
    y.refuses(STATE).undo();
  }

  private void whatStays() {
    s.terms("DESIGNS, QUESTIONS, what is TORN stay.");
    Run x = s.start();
    x.row(0, 3, 0, 0);
    x.mark();
    x.design(0, 1, 404L);
    x.tear(0, 2);
    x.tear(3, 15);
    x.ask("b=3");
    x.ask("d=15");
    x.write("a=");
    x.best(0, 9, 1, 1, 0);
    x.order(0);
    x.row(1, 3, 0, 0);
    x.due(1).undo();
    x.due(6).about(0, 3);
    x.due(2).count(6);
    x.due(1).back(0);
    x.due(6).about(0, 3);
    x.due(1).about(0, 1);
    x.due(1).about(0, 4);
    x.refuses(STATE).tear(0, 2);
    x.refuses(STATE).tear(3, 15);
    int[] want = {1, 2, 2, 0, 1, 6 + 48, 2, 1, 1};
    for (int what = 0; what <= 8; what++) x.due(want[what]).count(what);
    x.due(1L).leaves(0);
    x.due(1).asked(1, 2);
  }

  /** A table in which everything is full, or was done as often as it may be. */
  private Run filled() {
    Run x = s.start();
    x.size(0, 32);
    x.size(1, 12);
    x.mark();
    x.fill(11, 30);
    x.mark();
    x.fill(12, 64);
    x.set(63, 0, 31);
    x.mark();
    for (int line = 0; line < 20; line++) x.set(line, 0, 31 - line);
    x.design(0, 0, 3131L);
    x.design(1, 1, 304L);
    x.tear(0, 61);
    x.tear(1, 2);
    x.tear(1, 4);
    for (int q = 0; q <= 7; q++) x.ask("b<" + q + "|c=" + q);
    x.write("a=1|".repeat(15));
    for (int i = 0; i < 30; i++) x.best(3, 4, 1, 1, 0);
    for (int i = 0; i < 30; i++) x.order(0);
    return x;
  }

  /** Of several refusals the first that the call tells; of each kind at least one. */
  private void refuseAll(Run x) {
    x.refuses(UNKNOWN).size(4, 1);
    x.refuses(OUTSIDE).size(0, 1);
    x.refuses(STATE).size(0, 2);
    x.refuses(OUTSIDE).row(32, 0, 0, 0);
    x.refuses(FULL).row(31, 0, 0, 0);
    x.refuses(OUTSIDE).fill(-1, 1);
    x.refuses(UNKNOWN).set(64, 0, 99);
    x.refuses(UNKNOWN).set(0, 4, 99);
    x.refuses(OUTSIDE).set(0, 0, 32);
    x.refuses(UNKNOWN).drop(64);
    x.refuses(UNKNOWN).get(64, 4);
    x.refuses(UNKNOWN).design(4, 2, 0L);
    x.refuses(OUTSIDE).design(0, 2, 32L);
    x.refuses(OUTSIDE).design(0, 1, 31L);
    x.refuses(UNKNOWN).about(4, 5);
    x.refuses(OUTSIDE).about(0, 5);
    x.refuses(0L).vector(0, 61);
    x.refuses(0L).vector(0, 62);
    x.refuses(0L).reads(0, 2, 0);
    x.refuses(UNKNOWN).cost(4, 10, 10);
    x.refuses(OUTSIDE).cost(0, 0, 10);
    x.refuses(UNKNOWN).best(4, 0, 10, 10, 4);
    x.refuses(OUTSIDE).best(0, 64, 1, 1, 4);
    x.refuses(STATE).best(0, 64, 1, 1, 0);
    x.refuses(OUTSIDE).letters(0x7fL);
    x.refuses(FULL).letters(0x20L);
    x.refuses(STATE).ask();
    x.refuses(0L).leaves(8);
    x.refuses(0L).leaves(6);
    x.refuses(UNKNOWN).asked(8, 4);
    x.refuses(OUTSIDE).asked(6, 4);
    x.refuses(STATE).asked(6, 3);
    x.refuses(UNKNOWN).sum(8, 0);
    x.refuses(UNKNOWN).sum(6, 4);
    x.refuses(STATE).sum(6, 0);
    x.refuses(UNKNOWN).least(6, 4, -1);
    x.refuses(STATE).least(6, 0, -1);
    x.refuses(UNKNOWN).group(6, 4, 99);
    x.refuses(OUTSIDE).group(6, 0, 32);
    x.refuses(STATE).group(6, 0, 31);
    x.refuses(UNKNOWN).tear(0, 62);
    x.refuses(STATE).tear(0, 61);
    x.refuses(UNKNOWN).mend(4);
    x.refuses(STATE).mend(1);
    x.refuses(STATE).mend(2);
    x.refuses(0L).parity(4);
    x.refuses(UNKNOWN).words(0, 62, 26, true);
    x.refuses(OUTSIDE).words(0, 61, 26, true);
    x.refuses(OUTSIDE).all(26, false);
    x.refuses(OUTSIDE).placed(26, false, 64);
    x.refuses(OUTSIDE).placed(27, false, 64);
    x.refuses(OUTSIDE).order(3);
    x.refuses(STATE).order(0);
    x.refuses(FULL).mark();
    x.refuses(UNKNOWN).back(3);
    x.refuses(OUTSIDE).count(9);
  }

  private void refusals() {
    s.terms("Refusals, of several the first as told by each call: UNKNOWN (a number names nothing), OUTSIDE (it is not as told), "
        + "STATE (as told), FULL; they change nothing.");
    // a twin that was refused nothing must answer alike to all that is asked now
    Run x = filled();
    refuseAll(x);
    for (int line = 0; line <= 63; line++) for (int column = 0; column <= 3; column++) x.get(line, column);
    Run y = filled();
    refuseAll(y);
    for (int column = 0; column <= 3; column++) {
      for (int v = 0; v < y.about(column, 3); v++) y.vector(column, v);
      y.parity(column);
    }
    for (int q = 0; q <= 7; q++) {
      y.leaves(q);
      for (int what = 0; what <= 3; what++) y.asked(q, what);
    }
    for (int i = 0; i <= 63; i++) y.placed(228, true, i);
    Run z = filled();
    refuseAll(z);
    for (int i = 0; i < 100; i++) z.undo();
    for (int line = 0; line <= 63; line++) z.get(line, 0);
    for (int column = 0; column <= 3; column++) z.mend(column);
    Run w = filled();
    refuseAll(w);
    for (int mark = 2; mark >= 0; mark--) {
      w.due(mark == 2 ? 64 : 30 * mark).back(mark);
      for (int line = 0; line <= 63; line += 3) w.get(line, 0);
    }
    w.due(60).blank();
    // ask() with a text, but no number left
    w.write("a=1").refuses(FULL).ask();
    w.due(3).count(2);
    w.refuses(STATE).undo();
  }

  private void undo() {
    s.promise(30, "The latest CHANGE is undone: how many are kept still.");
    Run x = s.start();
    x.row(1, 2, 3, 4);
    x.set(0, 1, 9);
    x.set(0, 1, 9);
    x.set(0, 2, 8);
    x.drop(0);
    x.row(5, 5, 5, 5);
    x.due(6).count(3);
    x.due(5).undo();
    x.due(NONE).get(0, 0);
    x.due(4).undo();
    int[] row = {1, 9, 8, 4};
    for (int column = 0; column <= 3; column++) x.due(row[column]).get(0, column);
    x.due(3).undo();
    x.due(3).get(0, 2);
    x.due(2).undo();
    x.due(9).get(0, 1);
    x.due(1).undo();
    x.due(2).get(0, 1);
    x.due(0).undo();
    x.due(0).count(0);
    // of fill() one ROW after the other, the last first; LINE 63, too
    x.fill(3, 64);
    x.due(63).undo();
    x.due(NONE).get(63, 0);
    x.due(62).undo();
    x.due(62).count(0);
    x.due(62).row(0, 0, 0, 0);
    x.due(62).undo();
    // an UNDO is no CHANGE; it goes on behind a MARK, which stays
    x.due(62).count(3);
    x.mark();
    x.due(61).undo();
    x.due(61).count(0);
    x.due(1).count(4);
    x.due(62).back(0);

    s.promise(30, "STATE: none is.");
    Run y = s.start();
    y.refuses(STATE).undo();
    y.mark();
    y.design(0, 0, 404L);
    y.refuses(STATE).undo();
    y.row(1, 1, 1, 1);
    y.due(0).undo();
    y.refuses(STATE).undo();
    y.row(1, 1, 1, 1);
    y.back(0);
    y.refuses(STATE).undo();
    Run z = s.start();
    z.row(1, 1, 1, 1);
    z.drop(0);
    z.size(0, 3);
    z.refuses(STATE).undo();
  }

  private void mark() {
    s.promise(31, "MARKS: how many there are.");
    Run x = s.start();
    for (int n = 1; n <= 3; n++) {
      x.due(n).mark();
      x.due(n).count(4);
    }
    x.due(0).back(1);
    x.due(3).mark();
    x.due(0).back(0);
    x.due(2).mark();
    // CHANGES kept stay
    Run y = s.start();
    y.row(1, 1, 1, 1);
    y.due(1).mark();
    y.due(1).count(3);
    y.due(0).undo();
    y.due(1).back(0);

    s.promise(31, "FULL.");
    Run z = s.start();
    for (int n = 1; n <= 3; n++) {
      z.row(n, 0, 0, 0);
      z.mark();
    }
    z.row(4, 0, 0, 0);
    z.refuses(FULL).mark();
    z.refuses(FULL).mark();
    z.due(3).count(4);
    z.due(3).back(2);
    z.refuses(FULL).mark();
    z.due(1).back(0);
    z.due(2).mark();
  }

  private void back() {
    s.promise(32, "BACK to a mark (from 0): how many ROWS there are.");
    Run x = s.start();
    x.mark();
    x.fill(11, 5);
    x.set(2, 0, 7);
    x.mark();
    x.set(2, 0, 8);
    x.drop(0);
    x.mark();
    x.fill(12, 64);
    x.due(4).back(2);
    x.due(NONE).get(0, 0);
    x.due(8).get(2, 0);
    x.due(3).count(4);
    x.due(4).back(2);
    x.due(5).back(1);
    x.due(7).get(2, 0);
    x.due(0).back(0);
    x.due(NONE).get(2, 0);
    x.due(0).row(0, 0, 0, 0);
    x.due(64 - 1).fill(4, 64);
    x.due(0).back(0);

    s.promise(32, "UNKNOWN.");
    Run y = s.start();
    for (int mark : new int[] {0, -1, 1, 3, Wrong.MIN, Wrong.MAX}) y.refuses(UNKNOWN).back(mark);
    y.row(1, 1, 1, 1);
    y.mark();
    y.row(2, 2, 2, 2);
    for (int mark : new int[] {-1, 1, 2, 3, Wrong.MIN, Wrong.MAX}) y.refuses(UNKNOWN).back(mark);
    y.due(2).count(3);
    y.mark();
    y.mark();
    for (int mark : new int[] {-1, 3, 4}) y.refuses(UNKNOWN).back(mark);
    y.due(1).back(0);
    for (int mark : new int[] {1, 2}) y.refuses(UNKNOWN).back(mark);
    y.due(1).back(0);
  }
}
