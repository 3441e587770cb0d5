/** Promises 14 to 22: letters, blank, good, ask, leaves, asked, sum, least, group. */
public final class QuestionsTest {
  private static final int NONE = SlicedRows.NONE, UNKNOWN = SlicedRows.UNKNOWN, OUTSIDE = SlicedRows.OUTSIDE,
      STATE = SlicedRows.STATE, FULL = SlicedRows.FULL;
  private static final Due due = new Due("QuestionsTest");

  public static void main(String[] args) {
    letters();
    blank();
    good();
    ask();
    leaves();
    comparisonsBeyondSize();
    asked();
    failing();
    sum();
    least();
    group();
    due.end();
  }

  private static void letters() {
    SlicedRows x = new SlicedRows();
    due.is("none", x.letters(0L), 0);
    due.is("one", x.letters(1L), 1);
    due.is("126", x.letters(126L), 2);
    due.is("127", x.letters(127L), OUTSIDE);
    due.is("128", x.letters(128L), OUTSIDE);
    due.is("255 at last", x.letters(Due.word("abcdefg") | (255L << 56)), OUTSIDE);
    due.is("behind a 0", x.letters(0x610061L), OUTSIDE);
    due.is("a 0 first", x.letters(0x6100L), OUTSIDE);
    due.is("behind a 0, at last", x.letters(1L << 56), OUTSIDE);
    due.is("refusals bring nothing", x.count(2), 2);
    due.is("eight", x.letters(Due.word("abcdefgh")), 10);
    for (int n = 18; n <= 58; n += 8) due.is("eight more", x.letters(Due.word("abcdefgh")), n);
    due.is("three are too many", x.letters(Due.word("abc")), FULL);
    due.is("OUTSIDE first", x.letters(Due.word("abc") | (200L << 24)), OUTSIDE);
    due.is("two", x.letters(Due.word("ab")), 60);
    due.is("none", x.letters(0L), 60);
    due.is("one", x.letters(97L), FULL);
    due.is("count", x.count(2), 60);
  }

  private static void blank() {
    SlicedRows x = new SlicedRows();
    due.is("empty", x.blank(), 0);
    Due.write(x, "a=1&b=2|c");
    due.is("nine", x.blank(), 9);
    due.is("count", x.count(2), 0);
    due.is("again", x.blank(), 0);
    due.is("a new text", Due.ask(x, "d=1"), 0);
  }

  private static void goodOf(String text, int want) {
    SlicedRows x = new SlicedRows();
    Due.write(x, text);
    due.is("good of " + text, x.good(), want);
    due.is("THE PAGE stays", x.count(2), text.length());
    boolean whole = want == text.length();
    if (!whole) due.is("ask of " + text, x.ask(), STATE);
  }

  private static void good() {
    goodOf("", 0);
    goodOf("a", 1);
    goodOf("e", 0);
    goodOf("A=1", 0);
    goodOf("`=1", 0);
    goodOf(" a=1", 0);
    goodOf("a=", 2);
    goodOf("a<", 2);
    goodOf("a>", 2);
    goodOf("a;", 1);
    goodOf("a?", 1);
    goodOf("a==", 2);
    goodOf("a=1", 3);
    goodOf("a=/", 2);
    goodOf("a=:", 2);
    goodOf("a=12", 4);
    goodOf("a=123", 4);
    goodOf("a=1a", 3);
    goodOf("a=1)", 3);
    goodOf("a=12)", 4);
    goodOf("a=1(", 3);
    goodOf("a=1!", 3);
    goodOf("a=1&", 4);
    goodOf("a=1&&", 4);
    goodOf("a=1|&", 4);
    goodOf("a=1|b", 5);
    goodOf("!", 1);
    goodOf("!!!", 3);
    goodOf("!&", 1);
    goodOf("(", 1);
    goodOf("()", 1);
    goodOf("((((((((((((((((((((((((((((((((((((((((((((((((((((((((((((", 60);
    goodOf("(a=1", 4);
    goodOf("(a=1)", 5);
    goodOf("(a=1))", 5);
    goodOf("(a=1)b", 5);
    goodOf("(a=1)2", 5);
    goodOf("((a=1)|!(b<22&c>0))&d=9)", 23);
    goodOf("&", 0);
    goodOf(")", 0);
    goodOf("1", 0);
  }

  private static void ask() {
    SlicedRows x = new SlicedRows();
    due.is("nothing", x.ask(), STATE);
    for (String text : new String[] {"a", "a=", "a=1&", "!", "(a=1", "a=1)", "a=1 "}) {
      Due.write(x, text);
      due.is("ask of " + text, x.ask(), STATE);
      due.is("THE PAGE stays", x.blank(), text.length());
    }
    String[] some = {"a=1", "d<99", "!b>00", "(c=1)", "!(a=1|b=2)&c=3", "((((a=1))))", "a=1|b=1|c=1", "!!!a=1"};
    for (int i = 0; i < some.length; i++) {
      due.is("ask of " + some[i], Due.ask(x, some[i]), i);
      due.is("THE PAGE is empty", x.count(2), 0);
      due.is("QUESTIONS", x.count(1), i + 1);
    }
    Due.write(x, "a=1");
    due.is("a ninth", x.ask(), FULL);
    due.is("THE PAGE stays", x.count(2), 3);
    Due.write(x, "&");
    due.is("STATE first", x.ask(), STATE);
    SlicedRows y = new SlicedRows();
    String deep = "((((((((((((((((((((((((((((a=1))))))))))))))))))))))))))))";
    due.is("deep", Due.ask(y, deep), 0);
    due.is("nots", Due.ask(y, "!!!!!!!!!!!!!!!!!!!!!!!!!!!!!!!!!!!!!!!!!!!!!!!!!!!!!!!!!a=1"), 1);
    due.is("fifteen", Due.ask(y, "a=1&b=1|c=1&d=1|a=2&b=2|c=2&d=2|a=3&b=3|c=3&d=3|a=4&b=4|c=44"), 2);
    due.is("fifteen", y.asked(2, 1), 15);
    y.row(1, 0, 0, 0);
    due.is("deep", y.leaves(0), 1);
    due.is("57 nots", y.leaves(1), 0);
  }

  private static void leftBy(SlicedRows x, String text, int... lines) {
    int question = x.count(1);
    due.is("ask of " + text, Due.ask(x, text), question);
    due.is("leaves of " + text, x.leaves(question), Due.lines(lines));
  }

  private static SlicedRows sixRows() {
    SlicedRows x = new SlicedRows();
    x.row(0, 5, 1, 9);
    x.row(1, 4, 1, 0);
    x.row(2, 3, 0, 0);
    x.row(3, 2, 0, 7);
    x.row(4, 1, 1, 7);
    x.row(5, 0, 1, 15);
    return x;
  }

  private static void leaves() {
    SlicedRows x = sixRows();
    leftBy(x, "a=3", 3);
    leftBy(x, "a<2", 0, 1);
    leftBy(x, "a>3", 4, 5);
    leftBy(x, "!a=3", 0, 1, 2, 4, 5);
    leftBy(x, "a<0");
    leftBy(x, "a=01|c=0&d=0", 1, 2);
    leftBy(x, "(a=1|c=0)&d=0", 1, 2);
    leftBy(x, "(a=1|c=0)&d=7", 3);
    due.is("unknown", x.leaves(8), 0);
    due.is("unknown", x.leaves(-1), 0);
    x = sixRows();
    leftBy(x, "c=1&d=7|a=0", 0, 4);
    leftBy(x, "!c=1&d=7", 3);
    leftBy(x, "!(c=1&d=7)", 0, 1, 2, 3, 5);
    leftBy(x, "!!c=0", 2, 3);
    leftBy(x, "!c=1|!d<8", 0, 2, 3, 5);
    leftBy(x, "a=0|!(b=4|!(d>6))", 0, 3, 4, 5);
    leftBy(x, "a=0|a=1&b=0", 0);
    leftBy(x, "a=1&b=0|a=0", 0);
    SlicedRows y = sixRows();
    leftBy(y, "!a<0", 0, 1, 2, 3, 4, 5);
    leftBy(y, "a<0&c=1");
    leftBy(y, "c=0|a<0", 2, 3);
    leftBy(y, "b<0|a<0");
    x.drop(0);
    due.is("no ROW", x.leaves(6), 0);
    due.is("no ROW", x.leaves(2), Due.lines(1, 2, 3, 5));
    x.set(2, 0, 0);
    due.is("a ROW altered", x.leaves(7), Due.lines(2));
    due.is("unknown", new SlicedRows().leaves(0), 0);
  }

  private static void comparisonsBeyondSize() {
    SlicedRows x = new SlicedRows();
    x.size(0, 3);
    for (int v = 0; v < 3; v++) x.row(v, 0, 0, 0);
    leftBy(x, "a<3", 0, 1, 2);
    leftBy(x, "a<99", 0, 1, 2);
    leftBy(x, "a=3");
    leftBy(x, "a>2");
    leftBy(x, "a>99");
    leftBy(x, "!a>99", 0, 1, 2);
    leftBy(x, "a>1", 2);
    leftBy(x, "a>0", 1, 2);
    int[] reads = {0, 0, 0, 0, 0, 0, 1, 1};
    for (int q = 0; q < 8; q++) due.is("READS of " + q, x.asked(q, 0), reads[q]);
  }

  private static void asked() {
    SlicedRows x = sixRows();
    Due.ask(x, "a=3|a=3|!a=3");
    due.is("READS once", x.asked(0, 0), 1);
    due.is("comparisons", x.asked(0, 1), 3);
    due.is("FAILS not", x.asked(0, 2), 0);
    due.is("all", x.asked(0, 3), 6);
    Due.ask(x, "a<3&b>12|d=0&a=1");
    // a: VECTORS 0 1 2, of them 1 again; b > 12 reads 13 14 15; d one
    due.is("READS", x.asked(1, 0), 3 + 3 + 1);
    due.is("comparisons", x.asked(1, 1), 4);
    due.is("LINES", x.asked(1, 3), 1);
    Due.ask(x, "a>15|b<0");
    due.is("nothing READ", x.asked(2, 0), 0);
    due.is("question", x.asked(3, 0), UNKNOWN);
    due.is("question first", x.asked(-1, 9), UNKNOWN);
    due.is("what", x.asked(0, 4), OUTSIDE);
    due.is("what", x.asked(0, -1), OUTSIDE);
    x.design(0, 1, 404L);
    // a = 3: figures 3, 0; VECTORS 2 and 3
    due.is("READS by the DESIGN of now", x.asked(0, 0), 2);
    due.is("what it LEAVES is the same", x.asked(1, 3), 1);
  }

  private static void failing() {
    SlicedRows x = sixRows();
    Due.ask(x, "a=3|b=1");
    Due.ask(x, "b=1");
    due.is("tear", x.tear(0, 3), 1);
    due.is("FAILS", x.asked(0, 2), 1);
    due.is("READS all the same", x.asked(0, 0), 2);
    due.is("comparisons all the same", x.asked(0, 1), 2);
    due.is("LINES", x.asked(0, 3), STATE);
    due.is("leaves", x.leaves(0), 0);
    due.is("sum", x.sum(0, 1), STATE);
    due.is("least", x.least(0, 1, 0), STATE);
    due.is("least of no k", x.least(0, 1, -1), STATE);
    due.is("group", x.group(0, 1, 0), STATE);
    due.is("sum: UNKNOWN first", x.sum(0, 4), UNKNOWN);
    due.is("least: UNKNOWN first", x.least(0, -1, 0), UNKNOWN);
    due.is("group: UNKNOWN first", x.group(0, 4, 99), UNKNOWN);
    due.is("group: OUTSIDE first", x.group(0, 1, 16), OUTSIDE);
    due.is("asked: OUTSIDE", x.asked(0, 4), OUTSIDE);
    due.is("the other FAILS not", x.asked(1, 2), 0);
    due.is("the other", x.leaves(1), Due.lines(4));
    due.is("of a TORN COLUMN", x.sum(1, 0), 4);
    due.is("of a TORN COLUMN", x.least(1, 0, 0), 4);
    due.is("of a TORN COLUMN", x.group(1, 0, 4), 1);
    x.mend(0);
    due.is("mended", x.leaves(0), Due.lines(3, 4));
    x.tear(0, 4);
    due.is("another is TORN", x.asked(0, 2), 0);
    x.tear(0, 3);
    x.design(0, 0, 16L);
    due.is("a DESIGN mends", x.asked(0, 2), 0);
  }

  private static void sum() {
    SlicedRows x = sixRows();
    Due.ask(x, "c=1");
    Due.ask(x, "a=9");
    due.is("sum(0, 0)", x.sum(0, 0), 0 + 1 + 4 + 5);
    due.is("sum(0, 3)", x.sum(0, 3), 9 + 0 + 7 + 15);
    due.is("of none", x.sum(1, 0), 0);
    due.is("question", x.sum(2, 0), UNKNOWN);
    due.is("question", x.sum(-1, 0), UNKNOWN);
    due.is("column", x.sum(0, 4), UNKNOWN);
    due.is("column", x.sum(0, -1), UNKNOWN);
    SlicedRows y = new SlicedRows();
    y.size(0, 32);
    for (int i = 0; i < 64; i++) y.row(31, 0, 0, 0);
    Due.ask(y, "b=0");
    due.is("all", y.sum(0, 0), 64 * 31);
    due.is("all", y.asked(0, 3), 64);
    due.is("all", y.leaves(0), -1L);
    due.is("all", y.group(0, 0, 31), 64);
    due.is("the last", y.least(0, 0, 63), 63);
    due.is("behind it", y.least(0, 0, 64), NONE);
  }

  private static void least() {
    SlicedRows x = sixRows();
    Due.ask(x, "!a=2");
    int[] byD = {1, 3, 4, 0, 5};
    for (int k = 0; k < byD.length; k++) due.is("least(0, 3, " + k + ")", x.least(0, 3, k), byD[k]);
    due.is("behind", x.least(0, 3, 5), NONE);
    due.is("far behind", x.least(0, 3, Integer.MAX_VALUE), NONE);
    due.is("before", x.least(0, 3, -1), NONE);
    due.is("far before", x.least(0, 3, Integer.MIN_VALUE), NONE);
    due.is("by b", x.least(0, 1, 0), 5);
    due.is("question", x.least(1, 0, 0), UNKNOWN);
    due.is("column", x.least(0, 4, 0), UNKNOWN);
    due.is("column", x.least(0, -1, 0), UNKNOWN);
  }

  private static void group() {
    SlicedRows x = sixRows();
    Due.ask(x, "a<4");
    due.is("c 1", x.group(0, 2, 1), 2);
    due.is("c 0", x.group(0, 2, 0), 2);
    due.is("c 15", x.group(0, 2, 15), 0);
    due.is("c 16", x.group(0, 2, 16), OUTSIDE);
    due.is("c -1", x.group(0, 2, -1), OUTSIDE);
    due.is("question", x.group(1, 2, 16), UNKNOWN);
    due.is("column", x.group(0, 4, 0), UNKNOWN);
  }
}
