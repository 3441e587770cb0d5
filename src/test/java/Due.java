/** Counts the answers of one test that are not the ones due, and prints them. */
final class Due {
  private final String test;
  private int looked = 0;
  private int wrong = 0;

  Due(String test) {
    this.test = test;
  }

  void is(String call, long got, long want) {
    looked++;
    if (got != want) {
      wrong++;
      System.out.println(test + ": " + call + " answered " + got + ", due is " + want);
    }
  }

  void holds(String what, boolean held) {
    is(what, held ? 1L : 0L, 1L);
  }

  int looked() {
    return looked;
  }

  void end() {
    System.out.println(test + ": " + looked + " looked at, " + wrong + " wrong");
    if (wrong != 0 || looked == 0) System.exit(1);
  }

  /** Up to eight letters as letters() wants them. */
  static long word(String text) {
    long w = 0;
    for (int i = text.length() - 1; i >= 0; i--) w = (w << 8) | text.charAt(i);
    return w;
  }

  /** Puts a text behind the page; what the last letters() answered. */
  static int write(SlicedRows x, String text) {
    int answer = x.letters(0L);
    for (int i = 0; i < text.length(); i += 8) {
      answer = x.letters(word(text.substring(i, Math.min(i + 8, text.length()))));
    }
    return answer;
  }

  static int ask(SlicedRows x, String text) {
    write(x, text);
    return x.ask();
  }

  /** The bits of some lines. */
  static long lines(int... some) {
    long bits = 0;
    for (int line : some) bits |= 1L << line;
    return bits;
  }
}
