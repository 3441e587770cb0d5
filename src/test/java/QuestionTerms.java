import java.util.function.Predicate;

/** What the terms tell of questions, and promises 14 to 17: letters, blank, good, ask. */
final class QuestionTerms {
  private static final int OUTSIDE = SlicedRows.OUTSIDE, STATE = SlicedRows.STATE, FULL = SlicedRows.FULL;
  private static final String FACTOR_STARTS = "!(abcd", DIGITS = "0123456789";
  private final Sentences s;

  QuestionTerms(Sentences s) {
    this.s = s;
  }

  void look() {
    question();
    terms();
    factors();
    leaves();
    readsOfAll();
    letters();
    lettersRefused();
    blank();
    good();
    ask();
    askRefused();
  }

  /** Sixteen rows: of line i column k has the k-th binary figure of i; another, of 1s, in line 63. */
  private Run figures() {
    Run x = s.start();
    x.due(64).fill(1, 64);
    for (int line = 16; line <= 62; line++) x.drop(line);
    for (int line = 0; line <= 15; line++) {
      for (int column = 0; column <= 3; column++) x.set(line, column, (line >> column) & 1);
    }
    for (int column = 0; column <= 3; column++) x.set(63, column, 1);
    return x;
  }

  private void leftBy(Run x, String text, Predicate<boolean[]> holds) {
    long want = 0L;
    for (int line = 0; line <= 63; line++) {
      int row = line == 63 ? 15 : line;
      boolean[] ones = {(row & 1) != 0, (row & 2) != 0, (row & 4) != 0, (row & 8) != 0};
      if ((line <= 15 || line == 63) && holds.test(ones)) want |= 1L << line;
    }
    int question = x.count(1);
    x.write(text).due(question).ask();
    x.due(want).leaves(question);
  }

  private void question() {
    s.terms("A QUESTION (8 at most, numbered) is a text");
    Run x = s.start();
    x.row(5, 0, 0, 0);
    for (int question = 0; question <= 7; question++) x.write("a=" + question).due(question).ask();
    for (int question = 0; question <= 7; question++) x.due(question == 5 ? 1L : 0L).leaves(question);
    x.write("a=8").refuses(FULL).ask();
    x.due(8).count(1);
    for (int question = 0; question <= 7; question++) x.due(question == 5 ? 1L : 0L).leaves(question);
  }

  private void terms() {
    s.terms("TERMS with \"|\" between (one of them at least holds)");
    Run x = figures();
    leftBy(x, "a=1", r -> r[0]);
    leftBy(x, "a=1|b=1", r -> r[0] || r[1]);
    leftBy(x, "a=1|b=1|c=1|d=1", r -> r[0] || r[1] || r[2] || r[3]);
    leftBy(x, "a=1|a=0", r -> true);
    leftBy(x, "a=2|b=3|c=4|d=5", r -> false);
    leftBy(x, "a=1|b=1&c=1", r -> r[0] || (r[1] && r[2]));
    leftBy(x, "b=1&c=1|a=1", r -> (r[1] && r[2]) || r[0]);
    leftBy(x, "a=1&b=1|c=1&d=1", r -> (r[0] && r[1]) || (r[2] && r[3]));

    s.terms("TERM: FACTORS with \"&\" between (all hold)");
    Run y = figures();
    leftBy(y, "a=1&b=1", r -> r[0] && r[1]);
    leftBy(y, "a=1&b=1&c=1&d=1", r -> r[0] && r[1] && r[2] && r[3]);
    leftBy(y, "a=1&a=0", r -> false);
    leftBy(y, "a=1|b=1&c=1|d=1", r -> r[0] || (r[1] && r[2]) || r[3]);
    leftBy(y, "d<2&c<2&b<2&a<2", r -> true);
    leftBy(y, "!a=1&b=1", r -> !r[0] && r[1]);
    leftBy(y, "a=0&!b=1&!!c=1", r -> !r[0] && !r[1] && r[2]);
  }

  private void factors() {
    s.terms("FACTOR: \"!\" and a FACTOR");
    Run x = figures();
    leftBy(x, "!a=1", r -> !r[0]);
    leftBy(x, "!!a=1", r -> r[0]);
    leftBy(x, "!!!a=1", r -> !r[0]);
    leftBy(x, "!a=1|b=1", r -> !r[0] || r[1]);
    leftBy(x, "!(a=1|b=1)", r -> !(r[0] || r[1]));
    leftBy(x, "!(!a=1&b=1)", r -> r[0] || !r[1]);
    leftBy(x, "!(!(!a=1))&b=1", r -> !r[0] && r[1]);
    leftBy(x, "!".repeat(57) + "a=1", r -> !r[0]);

    s.terms("\"(\" TERMS with \"|\" between \")\"");
    Run y = figures();
    leftBy(y, "(a=1)", r -> r[0]);
    leftBy(y, "(a=1|b=1)&c=1", r -> (r[0] || r[1]) && r[2]);
    leftBy(y, "c=1&(a=1|b=1)", r -> (r[0] || r[1]) && r[2]);
    leftBy(y, "(a=1|b=1)&(c=1|d=1)", r -> (r[0] || r[1]) && (r[2] || r[3]));
    leftBy(y, "a=1&(b=1|(c=1&!(d=1|a=0)))", r -> r[0] && (r[1] || (r[2] && !r[3])));
    leftBy(y, "((((((((a=1))))|b=1))))", r -> r[0] || r[1]);
    leftBy(y, "(".repeat(28) + "a=1" + ")".repeat(28), r -> r[0]);
    leftBy(y, "(a=1&b=1)|(c=1)", r -> (r[0] && r[1]) || r[2]);

    s.terms("or a letter a to d (a COLUMN), \"<\", \"=\" or \">\", and one or two digits.");
    Run z = s.start();
    z.size(0, 32);
    z.row(0, 15, 0, 0);
    z.row(9, 14, 1, 0);
    z.row(10, 13, 0, 1);
    z.row(31, 0, 15, 15);
    String[] texts = {"a<10", "a=09", "a>9", "b>13", "c=1", "d=15", "a<0", "a>0"};
    long[] want = {Due.lines(0, 1), Due.lines(1), Due.lines(2, 3), Due.lines(0, 1), Due.lines(1), Due.lines(3), 0L, Due.lines(1, 2, 3)};
    for (int q = 0; q < texts.length; q++) {
      z.write(texts[q]).due(q).ask();
      z.due(want[q]).leaves(q);
    }
    // numbers at the edges of what a COLUMN holds, and beyond
    Run w = s.start();
    w.size(0, 3);
    for (int v = 0; v < 3; v++) w.row(v, 0, 0, 0);
    String[] edges = {"a<3", "a<99", "a=3", "a>2", "a>99", "a=99", "a<2", "a>1"};
    long[] left = {7, 7, 0, 0, 0, 0, 3, 4};
    for (int q = 0; q < edges.length; q++) {
      w.write(edges[q]).due(q).ask();
      w.due(left[q]).leaves(q);
      w.due(q < 6 ? 0 : 1).asked(q, 0);
    }
  }

  private void leaves() {
    s.terms("It LEAVES LINES that have a ROW for which it holds.");
    Run x = s.start();
    x.ask("!a=3");
    x.ask("a=3");
    x.due(0L).leaves(0);
    x.due(0L).leaves(1);
    for (int line = 0; line <= 63; line++) x.row(line == 0 || line == 63 ? 3 : 4, 0, 0, 0);
    x.due(Due.lines(0, 63)).leaves(1);
    x.due(~Due.lines(0, 63)).leaves(0);
    x.drop(63);
    x.drop(1);
    x.due(Due.lines(0)).leaves(1);
    x.due(~Due.lines(0, 1, 63)).leaves(0);
    x.set(32, 0, 3);
    x.due(Due.lines(0, 32)).leaves(1);
    x.undo();
    x.due(Due.lines(0)).leaves(1);
    // numbers count, however they are kept
    for (long bases : new long[] {404L, 2020202L, 32L, 1515L}) {
      for (int sort = 0; sort <= 1; sort++) {
        x.design(0, sort, bases);
        x.due(Due.lines(0)).leaves(1);
      }
    }
  }

  private void readsOfAll() {
    s.terms("READS: how many unlike VECTORS are read for all its comparisons together (of all COLUMNS; each once).");
    Run x = s.start();
    String[] texts = {"a=3|a=3&!a=3", "a=3|b=3", "a<3&a>2", "a<2|a<4", "a>15|b<0|c=16|d<16", "a=0|a>0",
      "a<8|a=8|a>8|b<8|b=8|b>8|c<8|c=8|c>8|d<8|d=8|d>8", "!(a=15|d=15)&d>13"};
    int[] want = {1, 2, 3, 4, 0, 1, 64, 1 + 2};
    for (int q = 0; q < texts.length; q++) {
      x.write(texts[q]).due(q).ask();
      x.due(want[q]).asked(q, 0);
    }
    // by the DESIGN of now; ROWS don't matter
    x.fill(1, 20);
    x.design(0, 1, 404L);
    x.due(2).asked(0, 0);
    x.due(3).asked(1, 0);
    x.design(0, 0, 2020202L);
    x.due(4).asked(0, 0);
    x.due(5).asked(1, 0);
  }

  private void letters() {
    s.promise(14, "Letters come behind THE PAGE, up to eight, told by their codes in the bytes of w, the lowest byte first, "
        + "until a byte that is 0: how many THE PAGE has.");
    Run x = s.start();
    x.due(0).letters(0L);
    x.due(1).letters(0x61L);
    x.due(3).letters(0x323cL);
    x.due(3).letters(0L);
    x.due(3).good();
    x.due(11).letters("&!(b=03)");
    x.due(11).good();
    x.due(0).ask();
    x.due(2).asked(0, 1);
    x.row(1, 4, 0, 0);
    x.row(1, 3, 0, 0);
    x.due(1L).leaves(0);
    for (int n = 1; n <= 8; n++) {
      x.blank();
      x.due(n).letters("a<1&b<2&".substring(0, n));
      x.due(n).good();
    }
    x.blank();
    x.due(1).letters(1L);
    x.due(2).letters(126L);
    x.due(10).letters(0x7e7e7e7e7e7e7e7eL);

    s.promise(14, "FULL: above 60.");
    Run y = s.start();
    for (int n = 8; n <= 56; n += 8) y.due(n).letters("a<1&b<2&");
    y.refuses(FULL).letters("c=3&d");
    y.refuses(FULL).letters("c=3&d=4|");
    y.due(56).count(2);
    y.due(60).letters("c=3&");
    y.due(60).letters(0L);
    y.refuses(FULL).letters("d");
    y.refuses(FULL).letters("d=1");
    y.due(60).good();
    y.due(60).blank();
    y.due(3).letters("d=1");
  }

  private void lettersRefused() {
    s.promise(14, "OUTSIDE: a byte above 126, or one behind a 0 that is not 0");
    Run x = s.start();
    x.write("a=1");
    long eight = Due.word("a<1&b<2&");
    for (int i = 0; i < 8; i++) {
      long others = eight & ~(255L << (8 * i));
      for (long code : new long[] {127, 128, 200, 255}) x.refuses(OUTSIDE).letters(others | (code << (8 * i)));
      // a byte above 126 that nothing but 0 is behind
      x.refuses(OUTSIDE).letters((eight & ((1L << (8 * i)) - 1L)) | (127L << (8 * i)));
      if (i < 7) x.refuses(OUTSIDE).letters(others);
      if (i > 0) x.refuses(OUTSIDE).letters(97L << (8 * i));
      if (i > 1) x.refuses(OUTSIDE).letters(97L | (1L << (8 * i)));
    }
    for (long w : new long[] {-1L, Long.MIN_VALUE, Long.MAX_VALUE, 0x100L, 1L << 56}) x.refuses(OUTSIDE).letters(w);
    x.due(3).count(2);
    for (int n = 11; n <= 59; n += 8) x.due(n).letters(eight);
    x.refuses(OUTSIDE).letters(127L);
    x.refuses(OUTSIDE).letters(Due.word("abc") | (127L << 24));
    x.refuses(OUTSIDE).letters(0x610061L);
    x.due(59).blank();
  }

  private void blank() {
    s.promise(15, "THE PAGE is empty: how many letters it had.");
    Run x = s.start();
    x.due(0).blank();
    x.write("a");
    x.due(1).blank();
    x.due(0).blank();
    x.due(0).count(2);
    x.write("a=1|".repeat(15));
    x.due(60).blank();
    x.due(0).good();
    x.write("b=1").due(3).good();
    x.due(0).ask();
    x.due(0).blank();
    x.due(1).count(1);
  }

  /** Which letters may follow a text (of seven letters at most), of all there are. */
  private void goOn(String text, String letters) {
    Run x = s.start();
    for (char code = 1; code <= 126; code++) {
      x.letters(text + code);
      x.due(text.length() + (letters.indexOf(code) >= 0 ? 1 : 0)).good();
      x.blank();
    }
  }

  private void good() {
    s.promise(16, "How many letters of THE PAGE begin some text of a QUESTION (of any length).");
    for (String start : new String[] {"", "!", "(", "a<1&", "a<12|", "(a=1&", "!(!("}) goOn(start, FACTOR_STARTS);
    for (String letter : new String[] {"a", "b", "c", "d", "!a", "(d"}) goOn(letter, "<=>");
    for (String sign : new String[] {"a<", "b=", "c>", "!d<"}) goOn(sign, DIGITS);
    for (String one : new String[] {"a<1", "b=0", "!c>9", "a=1|d>2"}) goOn(one, DIGITS + "&|");
    for (String two : new String[] {"a<12", "b=00", "!c>99", "(a<1)", "(d<12)", "!(!a=1)"}) goOn(two, "&|");
    for (String inside : new String[] {"(a<1", "((b=2", "(!c>3"}) goOn(inside, DIGITS + "&|)");
    for (String inside : new String[] {"(a<12", "((b=2)", "((c=12"}) goOn(inside, "&|)");
    goodOf("", 0);
    goodOf("a=1)", 3);
    goodOf("(a=1))", 5);
    goodOf("((a=1)|!(b<22&c>0))&d=9)", 23);
    goodOf("a=123&b=1", 4);
    goodOf("a=1&&b=1", 4);
    goodOf("e=1", 0);
    // of any length: no 60 letters end these texts
    goodOf("(".repeat(60), 60);
    goodOf("(".repeat(59) + "a", 60);
    goodOf("(".repeat(57) + "a=1", 60);
    goodOf("(".repeat(56) + "a=1)", 60);
    goodOf("!".repeat(60), 60);
    goodOf("a=1|".repeat(15), 60);
    goodOf("(".repeat(20) + "a=1" + ")".repeat(21), 43);
    goodOf("(".repeat(29) + ")", 29);
  }

  private void goodOf(String text, int want) {
    Run x = s.start();
    x.write(text).due(want).good();
    x.due(text.length()).count(2);
    x.due(want).good();
  }

  private void ask() {
    s.promise(17, "THE PAGE is read as a QUESTION: its number; THE PAGE is empty then.");
    Run x = s.start();
    String[] texts = {"a=1", "d<99", "!b>00", "(c=1)", "!(a=1|b=2)&c=3", "a=1|".repeat(14) + "b=12",
      "!".repeat(57) + "a=1", "(".repeat(28) + "a=1" + ")".repeat(28)};
    for (int q = 0; q < texts.length; q++) {
      x.write(texts[q]).due(texts[q].length()).count(2);
      x.due(q).ask();
      x.due(0).count(2);
      x.due(q + 1).count(1);
    }
    x.due(15).asked(5, 1);
    x.row(1, 0, 0, 0);
    int[] left = {1, 1, 1, 0, 0, 1, 0, 1};
    for (int q = 0; q < texts.length; q++) x.due(left[q]).asked(q, 3);
  }

  private void askRefused() {
    s.promise(17, "STATE: it is none; FULL.");
    Run x = s.start();
    x.refuses(STATE).ask();
    String[] none = {"a", "a=", "a=1&", "a=1|", "!", "(", "(a=1", "((a=1)", "a=1)", "a=1 ", " a=1", "a=123", "a=1b=1", "e=1", "A=1",
      "a==1", "a<=1", "()", "a=1!", "!&a=1", "a&b", "1=a", "a=1&|b=1"};
    for (String text : none) {
      x.write(text).refuses(STATE).ask();
      x.due(text.length()).blank();
    }
    x.due(0).count(1);
    for (int q = 0; q <= 7; q++) x.write("a=1").due(q).ask();
    x.refuses(STATE).ask();
    x.write("a=1").refuses(FULL).ask();
    x.due(3).count(2);
    x.write("&").refuses(STATE).ask();
    x.write("b=2").refuses(FULL).ask();
    x.due(7).blank();
  }
}
