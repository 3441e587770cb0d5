/** Promises 8 to 13: design, about, vector, reads, cost, best. */
public final class DesignsTest {
  private static final int NONE = SlicedRows.NONE, UNKNOWN = SlicedRows.UNKNOWN, OUTSIDE = SlicedRows.OUTSIDE,
      STATE = SlicedRows.STATE;
  private static final Due due = new Due("DesignsTest");

  public static void main(String[] args) {
    design();
    about();
    vector();
    readsOfEach();
    readsOfUpTo();
    cost();
    best();
    bestRefusals();
    due.end();
  }

  private static void design() {
    SlicedRows x = new SlicedRows();
    due.is("EACH 4, 4", x.design(0, 0, 404L), 8);
    due.is("UP TO 4, 4", x.design(0, 1, 404L), 6);
    due.is("EACH 2, 2, 2, 2", x.design(0, 0, 2020202L), 4);
    due.is("EACH 2, 8", x.design(0, 0, 802L), 9);
    due.is("first BASE lowest", x.about(0, 10), 2);
    due.is("second", x.about(0, 11), 8);
    due.is("BASE 32 for SIZE 16", x.design(0, 0, 32L), 32);
    due.is("15, 15", x.design(0, 0, 1515L), 30);
    due.is("column", x.design(4, 0, 16L), UNKNOWN);
    due.is("column before sort", x.design(-1, 7, 0L), UNKNOWN);
    due.is("sort 2", x.design(0, 2, 16L), OUTSIDE);
    due.is("sort -1", x.design(0, -1, 16L), OUTSIDE);
    due.is("no BASE", x.design(0, 0, 0L), OUTSIDE);
    due.is("negative", x.design(0, 0, -16L), OUTSIDE);
    due.is("least", x.design(0, 0, Long.MIN_VALUE), OUTSIDE);
    due.is("most", x.design(0, 0, Long.MAX_VALUE), OUTSIDE);
    due.is("BASE 1", x.design(0, 0, 1601L), OUTSIDE);
    due.is("BASE 33", x.design(0, 0, 33L), OUTSIDE);
    due.is("product below SIZE", x.design(0, 0, 503L), OUTSIDE);
    due.is("one needless", x.design(0, 0, 216L), OUTSIDE);
    due.is("the first needless", x.design(0, 0, 1602L), OUTSIDE);
    due.is("the middle one needless", x.design(0, 0, 40204L), OUTSIDE);
    due.is("a BASE behind a 0", x.design(0, 0, 40004L), OUTSIDE);
    due.is("a 0 first", x.design(0, 0, 1600L), OUTSIDE);
    due.is("refusals change nothing", x.about(0, 10), 15);
    x.size(0, 32);
    due.is("five", x.design(0, 0, 202020202L), 5);
    due.is("five UP TO, 3 at last", x.design(0, 1, 302020202L), 6);
    due.is("fifth", x.about(0, 14), 3);
    due.is("six", x.design(0, 0, 20202020202L), OUTSIDE);
    due.is("31, 31: most ROOM", x.design(0, 0, 3131L), 62);
    due.is("last VECTOR", x.tear(0, 61), 1);
    due.is("refusal keeps what is TORN", x.design(0, 0, 3232L), OUTSIDE);
    due.is("TORN", x.about(0, 4), 1);
    due.is("the same DESIGN again", x.design(0, 0, 3131L), 62);
    due.is("nothing TORN then", x.about(0, 4), 0);
    x.row(3, 3, 3, 3);
    due.is("ROWS don't hinder", x.design(0, 1, 804L), 10);
    due.is("it is no CHANGE", x.count(3), 1);
  }

  private static void about() {
    SlicedRows x = new SlicedRows();
    x.size(2, 12);
    x.design(2, 1, 304L);
    x.tear(2, 0);
    x.tear(2, 4);
    int[] want = {12, 1, 2, 5, 2};
    for (int what = 0; what <= 4; what++) due.is("about(2, " + what + ")", x.about(2, what), want[what]);
    due.is("about(2, 10)", x.about(2, 10), 4);
    due.is("about(2, 11)", x.about(2, 11), 3);
    for (int what = 12; what <= 14; what++) due.is("about(2, " + what + ")", x.about(2, what), NONE);
    for (int what : new int[] {-1, 5, 9, 15, Integer.MAX_VALUE, Integer.MIN_VALUE}) {
      due.is("about(2, " + what + ")", x.about(2, what), OUTSIDE);
    }
    due.is("about(4, 99)", x.about(4, 99), UNKNOWN);
    due.is("about(-1, 0)", x.about(-1, 0), UNKNOWN);
    x.design(2, 0, 26L);
    x.design(2, 1, 12L);
    due.is("old BASES are gone", x.about(2, 11), NONE);
  }

  private static void vector() {
    SlicedRows x = new SlicedRows();
    x.size(0, 6);
    x.size(1, 6);
    x.design(0, 0, 302L);
    x.design(1, 1, 203L);
    for (int v = 0; v < 6; v++) x.row(v, v, 15 - v, 0);
    due.is("EACH of BASE 2: where it is 1", x.vector(0, 0), Due.lines(1, 3, 5));
    due.is("EACH of BASE 3: 0", x.vector(0, 1), Due.lines(0, 1));
    due.is("EACH of BASE 3: 1", x.vector(0, 2), Due.lines(2, 3));
    due.is("EACH of BASE 3: 2", x.vector(0, 3), Due.lines(4, 5));
    due.is("no more", x.vector(0, 4), 0);
    due.is("UP TO of BASE 3: 0", x.vector(1, 0), Due.lines(0, 3));
    due.is("UP TO of BASE 3: 1", x.vector(1, 1), Due.lines(0, 1, 3, 4));
    due.is("UP TO of BASE 2: 0", x.vector(1, 2), Due.lines(0, 1, 2));
    due.is("no more", x.vector(1, 3), 0);
    due.is("one BASE, EACH", x.vector(2, 15), Due.lines(0));
    due.is("one BASE, EACH", x.vector(2, 16), 0);
    due.is("column", x.vector(4, 0), 0);
    due.is("column", x.vector(-1, 0), 0);
    due.is("v", x.vector(0, -1), 0);
    x.tear(1, 1);
    due.is("TORN", x.vector(1, 1), 0);
    due.is("others are there", x.vector(1, 0), Due.lines(0, 3));
    x.mend(1);
    due.is("mended", x.vector(1, 1), Due.lines(0, 1, 3, 4));
    x.drop(3);
    due.is("no ROW, no bit", x.vector(1, 1), Due.lines(0, 1, 4));
    x.fill(9, 64);
    due.is("bit 63", (x.vector(3, x.get(63, 3)) >>> 63) & 1L, 1);
  }

  private static void readsOfEach() {
    SlicedRows x = new SlicedRows();
    x.size(0, 5);
    due.is("5 = 0", x.reads(0, 0, 0), 1);
    due.is("5 = 4", x.reads(0, 0, 4), 16);
    due.is("5 = 5", x.reads(0, 0, 5), 0);
    due.is("5 < 0", x.reads(0, 1, 0), 0);
    due.is("5 < 1", x.reads(0, 1, 1), 1);
    due.is("5 < 2", x.reads(0, 1, 2), 3);
    due.is("5 < 3: the others are fewer", x.reads(0, 1, 3), 8 + 16);
    due.is("5 < 4", x.reads(0, 1, 4), 16);
    due.is("5 < 5", x.reads(0, 1, 5), 0);
    due.is("5 < 99", x.reads(0, 1, 99), 0);
    x.size(1, 4);
    due.is("4 < 2: just half", x.reads(1, 1, 2), 3);
    x.size(2, 2);
    due.is("2 = 0", x.reads(2, 0, 0), 1);
    due.is("2 = 1", x.reads(2, 0, 1), 1);
    due.is("2 < 1", x.reads(2, 1, 1), 1);
    // 3, 2, 3 of 17: VECTORS 0 1 2, 3, 4 5 6
    x.size(3, 17);
    x.design(3, 0, 30203L);
    due.is("17 = 16", x.reads(3, 0, 16), 2 + 8 + 64);
    due.is("17 < 6: lower figures are 0", x.reads(3, 1, 6), 16);
    due.is("17 < 3", x.reads(3, 1, 3), 8 + 16);
    due.is("17 < 7: 1, 0, 1", x.reads(3, 1, 7), 1 + 8 + 16 + 32);
    due.is("17 < 2: the top figure 0 is read for = alone", x.reads(3, 1, 2), 4 + 8 + 16);
    due.is("17 < 12", x.reads(3, 1, 12), 64);
    due.is("17 < 16", x.reads(3, 1, 16), 1 + 2 + 8 + 64 - 2);
    due.is("17 < 17", x.reads(3, 1, 17), 0);
    due.is("column", x.reads(4, 0, 1), 0);
    due.is("how", x.reads(3, 2, 1), 0);
    due.is("how", x.reads(3, -1, 1), 0);
    due.is("c", x.reads(3, 0, -1), 0);
    due.is("c", x.reads(3, 1, 100), 0);
  }

  private static void readsOfUpTo() {
    SlicedRows x = new SlicedRows();
    x.size(0, 5);
    x.design(0, 1, 5L);
    due.is("= 0", x.reads(0, 0, 0), 1);
    due.is("= 1", x.reads(0, 0, 1), 1 + 2);
    due.is("= 3", x.reads(0, 0, 3), 4 + 8);
    due.is("= 4", x.reads(0, 0, 4), 8);
    due.is("= 5", x.reads(0, 0, 5), 0);
    due.is("< 1", x.reads(0, 1, 1), 1);
    due.is("< 4", x.reads(0, 1, 4), 8);
    due.is("< 5", x.reads(0, 1, 5), 0);
    // 3, 2, 3 of 17: VECTORS 0 1, 2, 3 4
    x.size(1, 17);
    x.design(1, 1, 30203L);
    due.is("= 16: 1, 1, 2", x.reads(1, 0, 16), 3 + 4 + 16);
    due.is("< 7: 1, 0, 1", x.reads(1, 1, 7), 1 + 4 + 8 + 16);
    due.is("< 6: 0, 0, 1", x.reads(1, 1, 6), 8);
    due.is("< 2: 2, 0, 0", x.reads(1, 1, 2), 2 + 4 + 8);
    due.is("< 15: 0, 1, 2", x.reads(1, 1, 15), 4 + 16);
  }

  private static void cost() {
    SlicedRows x = new SlicedRows();
    x.size(0, 5);
    due.is("EACH 5", x.cost(0, 1, 0), 5);
    due.is("EACH 5", x.cost(0, 0, 1), 1 + 2 + 2 + 1);
    due.is("EACH 5", x.cost(0, 9, 7), 9 * 5 + 7 * 6);
    due.is("no weight", x.cost(0, 0, 0), 0);
    x.design(0, 1, 5L);
    due.is("UP TO 5", x.cost(0, 1, 0), 1 + 2 + 2 + 2 + 1);
    due.is("UP TO 5", x.cost(0, 0, 1), 4);
    due.is("column", x.cost(4, 10, 10), UNKNOWN);
    due.is("e", x.cost(0, 10, 0), OUTSIDE);
    due.is("e", x.cost(0, -1, 0), OUTSIDE);
    due.is("l", x.cost(0, 0, 10), OUTSIDE);
    due.is("l", x.cost(0, 0, -1), OUTSIDE);
    long[] designs = {32L, 3131L, 216L, 1602L, 804L, 408L, 40402L, 60506L, 30304L, 202020202L, 302020202L, 202020302L,
        3030303L, 7020202L, 2020207L, 50505L, 1717L};
    x.size(1, 32);
    for (long bases : designs) {
      for (int sort = 0; sort <= 1; sort++) {
        if (x.design(1, sort, bases) < 0) continue;
        int equal = 0;
        int below = 0;
        for (int c = 0; c < 32; c++) equal += Long.bitCount(x.reads(1, 0, c));
        for (int c = 1; c < 32; c++) below += Long.bitCount(x.reads(1, 1, c));
        due.is("cost of " + bases, x.cost(1, 2, 5), 2 * equal + 5 * below);
      }
    }
  }

  private static void told(SlicedRows x, int column, int room, int e, int l, int... want) {
    int[] whats = {0, 1, 2, 3, 10, 11, 12, 13, 14};
    for (int i = 0; i < whats.length; i++) {
      due.is("best(" + column + ", " + room + ", " + e + ", " + l + ", " + whats[i] + ")",
          x.best(column, room, e, l, whats[i]), i < want.length ? want[i] : NONE);
    }
  }

  private static void best() {
    SlicedRows x = new SlicedRows();
    x.size(0, 32);
    // five of BASE 2: "<" reads all figures from the lowest that is not 0 on
    told(x, 0, 5, 1, 1, 32 * 5 + 16 * 5 + 8 * 4 + 4 * 3 + 2 * 2 + 1, 5, 0, 5, 2, 2, 2, 2, 2);
    told(x, 0, 4, 1, 1, NONE, NONE, NONE, NONE);
    x = new SlicedRows();
    x.size(0, 32);
    told(x, 0, 64, 1, 0, 32, 32, 0, 1, 32);
    told(x, 0, 64, 0, 1, 31, 31, 1, 1, 32);
    x = new SlicedRows();
    x.size(1, 2);
    told(x, 1, 1, 9, 9, 27, 1, 0, 1, 2);
    x.size(2, 12);
    // no weight: least ROOM; 4 VECTORS hold 2, 2, 3 and 2, 2, 2, 2, and SORT 0 needs 5 for the first
    told(x, 2, 64, 0, 0, 0, 4, 0, 4, 2, 2, 2, 2);
    x = new SlicedRows();
    x.size(0, 4);
    x.size(1, 3);
    // 2, 2 costs 8 and 5, ROOM 2; 4 of UP TO costs 6 and 3, ROOM 3
    told(x, 0, 2, 1, 1, 8 + 5, 2, 0, 2, 2, 2);
    due.is("within 3", x.best(0, 3, 1, 1, 0), 6 + 3);
    due.is("within 3", x.best(0, 3, 1, 1, 2), 1);
    // 3 of UP TO: 4 and 2 with ROOM 2
    due.is("3", x.best(1, 64, 0, 1, 0), 2);
    due.is("3: EACH and UP TO are alike, UP TO has less ROOM", x.best(1, 64, 0, 1, 2), 1);
    due.is("3: ROOM", x.best(1, 64, 0, 1, 1), 2);
  }

  private static void bestRefusals() {
    SlicedRows x = new SlicedRows();
    due.is("column first", x.best(4, 0, 10, 10, 99), UNKNOWN);
    due.is("room 0", x.best(0, 0, 1, 1, 0), OUTSIDE);
    due.is("room 65", x.best(0, 65, 1, 1, 0), OUTSIDE);
    due.is("e", x.best(0, 9, 10, 1, 0), OUTSIDE);
    due.is("e", x.best(0, 9, -1, 1, 0), OUTSIDE);
    due.is("l", x.best(0, 9, 1, 10, 0), OUTSIDE);
    due.is("l", x.best(0, 9, 1, -1, 0), OUTSIDE);
    for (int what : new int[] {-1, 4, 9, 15}) due.is("what " + what, x.best(0, 9, 1, 1, what), OUTSIDE);
    due.is("refusals aren't counted", x.count(7), 0);
    due.is("none", x.best(0, 1, 1, 1, 0), NONE);
    due.is("none is counted", x.count(7), 1);
    for (int i = 1; i < 30; i++) due.is("best", x.best(0, 16, 1, 0, 0), 16);
    due.is("30 times", x.best(0, 16, 1, 0, 0), STATE);
    due.is("OUTSIDE first", x.best(0, 16, 1, 0, 4), OUTSIDE);
    due.is("UNKNOWN first", x.best(-1, 16, 1, 0, 0), UNKNOWN);
    due.is("counted", x.count(7), 30);
  }
}
