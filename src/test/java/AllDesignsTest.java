/** Promises 8, 9, 12 and 13 over every design of every size. */
public final class AllDesignsTest {
  private static final int[] WHATS = {0, 1, 2, 3, 10, 11, 12, 13, 14};
  private static final int[] ROOMS = {1, 2, 3, 4, 5, 6, 7, 8, 9, 10, 12, 15, 16, 20, 31, 32, 33, 62, 64};
  private static final int[][] WEIGHTS = {{1, 1}, {0, 0}, {9, 1}, {1, 0}, {0, 1}};
  /** An object is used for 512 calls at most. */
  private static final int DESIGNS_OF_AN_OBJECT = 250;
  private static final Due due = new Due("AllDesignsTest");

  public static void main(String[] args) {
    for (int size = 2; size <= 32; size++) {
      costs(size);
      for (int room : ROOMS) {
        for (int[] weights : WEIGHTS) best(size, room, weights[0], weights[1]);
      }
    }
    due.end();
  }

  private static void costs(int size) {
    SlicedRows x = null;
    int done = 0;
    for (Model.Priced priced : Model.allDesigns(size)) {
      if (done % DESIGNS_OF_AN_OBJECT == 0) {
        x = new SlicedRows();
        x.size(1, size);
      }
      done++;
      long told = 0;
      long place = 1;
      for (int base : priced.design().bases()) {
        told += place * base;
        place *= 100;
      }
      due.is("design of " + size, x.design(1, priced.design().sort(), told), priced.design().room());
      due.is("cost of " + told + " for " + size, x.cost(1, 7, 4), 7 * priced.equal() + 4 * priced.below());
    }
  }

  private static void best(int size, int room, int e, int l) {
    SlicedRows x = new SlicedRows();
    Model m = new Model();
    x.size(2, size);
    m.size(2, size);
    for (int what : WHATS) {
      due.is("size " + size + ", best(2, " + room + ", " + e + ", " + l + ", " + what + ")",
          x.best(2, room, e, l, what), m.best(2, room, e, l, what));
    }
  }
}
