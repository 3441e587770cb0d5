import java.lang.management.ManagementFactory;

/** All calls of a run live in one room: an object is small, and no call but ask() makes anything. */
public final class RoomTest {
  private static final int OBJECTS = 1000;
  private static final Due due = new Due("RoomTest");
  private static final com.sun.management.ThreadMXBean threads =
      (com.sun.management.ThreadMXBean) ManagementFactory.getThreadMXBean();
  private static long told = 0;

  public static void main(String[] args) {
    SlicedRows[] all = new SlicedRows[OBJECTS];
    use(new SlicedRows());
    made();
    long before = made();
    for (int i = 0; i < OBJECTS; i++) all[i] = new SlicedRows();
    due.holds("an object takes 8000 bytes at most", (made() - before) / OBJECTS <= 8000);
    for (int i = 0; i < OBJECTS; i++) {
      for (int q = 0; q < 8; q++) Due.ask(all[i], "a<3&(b=1|!c>9)|d=12");
    }
    for (int i = 0; i < 50; i++) {
      before = made();
      use(all[i]);
      due.holds("calls make nothing", made() - before <= 1000);
    }
    due.holds("answers came", told != 0);
    due.end();
  }

  private static long made() {
    return threads.getThreadAllocatedBytes(Thread.currentThread().getId());
  }

  private static void use(SlicedRows x) {
    for (int column = 0; column < 4; column++) told += x.size(column, 32);
    told += x.fill(123, 60) + x.design(0, 0, 3131L) + x.design(1, 1, 202020202L) + x.row(1, 1, 1, 1) + x.set(0, 0, 1);
    told += x.drop(3) + x.get(1, 1) + x.about(0, 3) + x.vector(0, 1) + x.reads(0, 1, 9) + x.cost(0, 1, 1);
    for (int i = 0; i < 5; i++) told += x.best(2, 64, 1, 1, 0) + x.order(0);
    told += x.letters(97L) + x.good() + x.blank() + x.leaves(0) + x.asked(0, 0) + x.sum(0, 0) + x.least(0, 0, 0) + x.group(0, 0, 0);
    told += x.tear(0, 0) + x.mend(0) + x.parity(0) + x.words(0, 0, 27, true) + x.all(27, true) + x.placed(27, true, 9);
    told += x.undo() + x.mark() + x.back(0) + x.count(3) + x.digest();
  }
}
