/** Promises 30 to 34: undo, mark, back, count, digest. */
public final class ChangesTest {
  private static final int NONE = SlicedRows.NONE, UNKNOWN = SlicedRows.UNKNOWN, OUTSIDE = SlicedRows.OUTSIDE,
      STATE = SlicedRows.STATE, FULL = SlicedRows.FULL;
  private static final Due due = new Due("ChangesTest");

  public static void main(String[] args) {
    undo();
    undoOfAHundred();
    mark();
    back();
    backKeepsTheRest();
    count();
    digest();
    due.end();
  }

  private static void undo() {
    SlicedRows x = new SlicedRows();
    due.is("nothing", x.undo(), STATE);
    x.row(1, 2, 3, 4);
    x.set(0, 1, 9);
    x.set(0, 1, 8);
    x.drop(0);
    x.row(5, 5, 5, 5);
    due.is("five", x.count(3), 5);
    due.is("row", x.undo(), 4);
    due.is("row went", x.get(0, 0), NONE);
    due.is("drop", x.undo(), 3);
    due.is("it came back", x.get(0, 0), 1);
    due.is("it came back", x.get(0, 1), 8);
    due.is("it came back", x.get(0, 3), 4);
    due.is("set", x.undo(), 2);
    due.is("9", x.get(0, 1), 9);
    due.is("set", x.undo(), 1);
    due.is("2", x.get(0, 1), 2);
    due.is("row", x.undo(), 0);
    due.is("no ROW", x.count(0), 0);
    due.is("nothing", x.undo(), STATE);
    x.fill(3, 10);
    due.is("fill: one by one", x.undo(), 9);
    due.is("the latest LINE", x.get(9, 0), NONE);
    due.is("ROWS", x.count(0), 9);
    x.tear(0, 0);
    x.design(1, 0, 404L);
    due.is("tear and design are none", x.count(3), 9);
    x.set(20, 0, 0);
    x.drop(20);
    x.row(99, 0, 0, 0);
    due.is("refusals are none", x.count(3), 9);
    due.is("undo", x.undo(), 8);
    due.is("what is TORN stays", x.count(6), 1);
    due.is("the DESIGN stays", x.about(1, 2), 2);
  }

  private static void undoOfAHundred() {
    SlicedRows x = new SlicedRows();
    x.row(0, 0, 0, 0);
    for (int i = 1; i <= 105; i++) x.set(0, 0, i % 16);
    due.is("100 at most", x.count(3), 100);
    for (int i = 104; i >= 5; i--) {
      due.is("undo", x.undo(), i - 5);
      due.is("as it was", x.get(0, 0), i % 16);
    }
    due.is("no more", x.undo(), STATE);
    due.is("as it was before the latest 100", x.get(0, 0), 5);
    x.set(0, 1, 3);
    due.is("one again", x.undo(), 0);
    due.is("undone", x.get(0, 1), 0);
    SlicedRows y = new SlicedRows();
    y.fill(1, 64);
    for (int line = 0; line < 40; line++) y.drop(line);
    due.is("100 of 104", y.count(3), 100);
    for (int i = 0; i < 100; i++) y.undo();
    due.is("the first four stay", y.count(0), 4);
    due.is("LINE 3", y.get(3, 0) >= 0 ? 1 : 0, 1);
    due.is("LINE 4", y.get(4, 0), NONE);
  }

  private static void mark() {
    SlicedRows x = new SlicedRows();
    x.row(1, 1, 1, 1);
    due.is("one", x.mark(), 1);
    due.is("CHANGES stay", x.count(3), 1);
    due.is("two", x.mark(), 2);
    due.is("three", x.mark(), 3);
    due.is("full", x.mark(), FULL);
    due.is("three", x.count(4), 3);
    due.is("undo goes on behind a mark", x.undo(), 0);
    due.is("marks stay", x.count(4), 3);
    due.is("and hold the ROW", x.back(2), 1);
    due.is("and hold the ROW", x.get(0, 3), 1);
  }

  private static void back() {
    SlicedRows x = new SlicedRows();
    due.is("none", x.back(0), UNKNOWN);
    x.mark();
    x.fill(11, 5);
    x.set(2, 0, 7);
    x.mark();
    x.set(2, 0, 8);
    x.drop(0);
    x.mark();
    x.fill(12, 30);
    due.is("no such", x.back(3), UNKNOWN);
    due.is("no such", x.back(-1), UNKNOWN);
    due.is("refusals keep CHANGES", x.count(3), 38);
    due.is("back(2)", x.back(2), 4);
    due.is("as then", x.get(0, 0), NONE);
    due.is("as then", x.get(2, 0), 8);
    due.is("CHANGES are gone", x.count(3), 0);
    due.is("nothing to undo", x.undo(), STATE);
    due.is("MARKS", x.count(4), 3);
    due.is("back(1)", x.back(1), 5);
    due.is("as then", x.get(2, 0), 7);
    due.is("the mark behind is gone", x.count(4), 2);
    due.is("gone", x.back(2), UNKNOWN);
    x.set(2, 0, 1);
    due.is("a new one", x.mark(), 3);
    due.is("again", x.back(1), 5);
    due.is("again", x.get(2, 0), 7);
    due.is("back(0)", x.back(0), 0);
    due.is("one MARK", x.count(4), 1);
    due.is("empty", x.get(2, 0), NONE);
    due.is("the least LINE", x.row(0, 0, 0, 0), 0);
  }

  private static void backKeepsTheRest() {
    SlicedRows x = new SlicedRows();
    x.mark();
    x.design(0, 1, 404L);
    x.tear(0, 2);
    Due.ask(x, "b=3");
    Due.write(x, "a=");
    x.best(0, 9, 1, 1, 0);
    x.order(0);
    x.row(1, 3, 0, 0);
    due.is("back", x.back(0), 0);
    due.is("DESIGN", x.about(0, 1), 1);
    due.is("TORN", x.count(6), 1);
    due.is("QUESTIONS", x.count(1), 1);
    due.is("THE PAGE", x.count(2), 2);
    due.is("best", x.count(7), 1);
    due.is("order", x.count(8), 1);
  }

  private static void count() {
    SlicedRows x = new SlicedRows();
    x.size(0, 9);
    x.design(0, 1, 303L);
    x.fill(4, 6);
    x.drop(2);
    x.mark();
    x.mark();
    Due.ask(x, "a=1");
    Due.ask(x, "a=2");
    Due.ask(x, "a=3");
    Due.write(x, "abcd");
    x.tear(0, 1);
    x.tear(3, 1);
    for (int i = 0; i < 5; i++) x.best(0, 4, 1, 1, 0);
    x.order(1);
    int[] want = {5, 3, 4, 7, 2, 4 + 48, 2, 5, 1};
    for (int what = 0; what <= 8; what++) due.is("count(" + what + ")", x.count(what), want[what]);
    due.is("count(9)", x.count(9), OUTSIDE);
    due.is("count(-1)", x.count(-1), OUTSIDE);
    due.is("count(min)", x.count(Integer.MIN_VALUE), OUTSIDE);
  }

  private static long digestOf(SlicedRows x, String page) {
    long h = 263;
    for (int line = 0; line < 64; line++) {
      for (int column = 0; column < 4; column++) h = 31 * h + x.get(line, column);
    }
    for (int column = 0; column < 4; column++) {
      for (int what : new int[] {0, 1, 2, 3, 4, 10, 11, 12, 13, 14}) h = 31 * h + x.about(column, what);
      h = 31 * h + x.parity(column);
    }
    for (int question = 0; question < x.count(1); question++) {
      for (int what = 0; what <= 2; what++) h = 31 * h + x.asked(question, what);
    }
    for (char letter : page.toCharArray()) h = 31 * h + letter;
    for (int what = 0; what <= 8; what++) h = 31 * h + x.count(what);
    return h;
  }

  private static void digest() {
    SlicedRows x = new SlicedRows();
    due.is("new", x.digest(), digestOf(x, ""));
    due.is("twice", x.digest(), digestOf(x, ""));
    x.size(2, 30);
    x.design(2, 0, 506L);
    x.design(1, 1, 2020202L);
    x.fill(123456789, 33);
    x.drop(9);
    Due.ask(x, "a<3&!b>4|c=29");
    Due.ask(x, "d>2");
    Due.write(x, "~!(a");
    x.tear(3, 14);
    x.tear(1, 0);
    x.mark();
    x.order(0);
    x.best(1, 5, 3, 3, 12);
    due.is("full of things", x.digest(), digestOf(x, "~!(a"));
    long before = x.digest();
    x.set(4, 1, (x.get(4, 1) + 1) % 16);
    due.holds("another ROW, another digest", x.digest() != before);
    x.undo();
    due.is("undone", x.digest(), before);
  }
}
