import java.util.ArrayList;
import java.util.List;

/** Promises 33 and 34: count, digest. */
final class ToldPromises {
  private static final int NONE = SlicedRows.NONE, OUTSIDE = SlicedRows.OUTSIDE;
  private final Sentences s;

  ToldPromises(Sentences s) {
    this.s = s;
  }

  void look() {
    count();
    digest();
  }

  private void count() {
    s.promise(33, "How many: 0 ROWS, 1 QUESTIONS, 2 letters of THE PAGE, 3 CHANGES kept, 4 MARKS, 5 VECTORS of all COLUMNS, "
        + "6 TORN ones, 7 how often best(), 8 order() was done.");
    counts(s.start(), 0, 0, 0, 0, 0, 64, 0, 0, 0);
    Run x = s.start();
    x.size(0, 9);
    x.design(0, 1, 303L);
    x.fill(4, 6);
    x.drop(2);
    x.mark();
    x.mark();
    for (int q = 1; q <= 3; q++) x.ask("a=" + q);
    x.write("abcd");
    x.tear(0, 1);
    x.tear(3, 1);
    for (int i = 0; i < 5; i++) x.best(0, 4, 1, 1, 0);
    x.order(1);
    counts(x, 5, 3, 4, 7, 2, 4 + 48, 2, 5, 1);
    // as many as there can be
    Run y = s.start();
    for (int column = 0; column <= 3; column++) {
      y.size(column, 32);
      y.design(column, 0, 3131L);
    }
    for (int v = 0; v <= 61; v++) for (int column = 0; column <= 3; column++) y.tear(column, v);
    y.fill(4, 64);
    for (int i = 0; i <= 36; i++) y.set(0, 0, i % 32);
    for (int i = 0; i <= 3; i++) y.mark();
    for (int q = 0; q <= 8; q++) y.ask("a=1");
    y.write("(".repeat(57));
    for (int i = 0; i <= 30; i++) y.best(0, 4, 1, 1, 0);
    for (int i = 0; i <= 30; i++) y.order(0);
    counts(y, 64, 8, 60, 100, 3, 248, 248, 30, 30);
    // the least
    Run z = s.start();
    for (int column = 0; column <= 3; column++) z.size(column, 2);
    counts(z, 0, 0, 0, 0, 0, 4, 0, 0, 0);

    s.promise(33, "OUTSIDE.");
    Run w = s.start();
    for (int what : new int[] {-1, 9, 10, Wrong.MIN, Wrong.MAX}) w.refuses(OUTSIDE).count(what);
  }

  private static void counts(Run x, int... want) {
    for (int what = 0; what <= 8; what++) x.due(want[what]).count(what);
  }

  private static void add(List<Long> numbers, long... some) {
    for (long one : some) numbers.add(one);
  }

  private static long digestOf(List<Long> numbers) {
    java.math.BigInteger h = java.math.BigInteger.valueOf(263);
    for (long number : numbers) h = h.multiply(java.math.BigInteger.valueOf(31)).add(java.math.BigInteger.valueOf(number));
    // the lower 64 binary figures of what does not wrap
    return h.longValue();
  }

  private void digest() {
    s.promise(34, "h is 263, then for each of these numbers, in order, 31 times h, and it (as longs, wrapping): "
        + "of each LINE what get() tells of each COLUMN; of each COLUMN what about() tells for 0 to 4, 10 to 14, its PARITY; "
        + "of each QUESTION what asked() tells for 0 to 2; letters of THE PAGE; what count() tells for 0 to 8.");
    List<Long> empty = new ArrayList<>();
    for (int i = 0; i < 256; i++) add(empty, NONE);
    for (int column = 0; column <= 3; column++) add(empty, 16, 0, 1, 16, 0, 16, NONE, NONE, NONE, NONE, 0);
    add(empty, 0, 0, 0, 0, 0, 64, 0, 0, 0);
    Run x = s.start();
    x.due(digestOf(empty)).digest();
    x.due(digestOf(empty)).digest();

    // a full table, so that PARITY is below 0; five BASES; one QUESTION that FAILS; letters 1 and 126
    Run y = s.start();
    y.size(0, 32);
    y.design(0, 0, 202020202L);
    y.design(2, 1, 404L);
    List<Long> full = new ArrayList<>();
    for (int line = 0; line <= 63; line++) {
      y.row(31, line % 16, 3, 0);
      add(full, 31, line % 16, 3, 0);
    }
    y.ask("a<3|c=5");
    y.ask("d=0");
    y.tear(0, 4);
    y.letters(0x7e01L);
    y.mark();
    y.best(0, 4, 1, 1, 0);
    y.order(0);
    y.order(0);
    add(full, 32, 0, 5, 5, 1, 2, 2, 2, 2, 2, -1L);
    add(full, 16, 0, 1, 16, 0, 16, NONE, NONE, NONE, NONE, -1L);
    // 3 is 3, 0: none of its first figure, three of its second
    add(full, 16, 1, 2, 6, 0, 4, 4, NONE, NONE, NONE, -1L);
    add(full, 16, 0, 1, 16, 0, 16, NONE, NONE, NONE, NONE, -1L);
    // a < 3 reads five; c = 5 is 1, 1 and reads two of each figure
    add(full, 5 + 4, 2, 1, 1, 1, 0);
    add(full, 1, 126);
    add(full, 64, 2, 2, 64, 1, 5 + 16 + 6 + 16, 1, 1, 2);
    y.due(digestOf(full)).digest();
    y.drop(63);
    for (int i = 0; i < 4; i++) full.set(252 + i, (long) NONE);
    for (int column = 0; column <= 3; column++) full.set(256 + 11 * column + 10, Long.MAX_VALUE);
    full.set(full.size() - 9, 63L);
    full.set(full.size() - 6, 65L);
    y.due(digestOf(full)).digest();
    y.undo();
    y.back(0);
    y.blank();
    y.mend(0);
    y.letters(0x7e01L);
    y.tear(0, 4);
    long before = y.digest();
    y.tear(0, 3);
    s.holds("another TORN VECTOR, another digest", y.digest() != before);
  }
}
