import java.util.ArrayList;
import java.util.List;
import java.util.Random;

/** Runs of 512 calls by chance, on the class and on the Model: every answer must be alike. */
public final class ModelTest {
  private static final int RUNS = 240;
  private static final int CALLS = 512;
  /** A text of 60 letters comes by eight calls and is blanked, looked at and asked by three. */
  private static final int CALLS_OF_A_TEXT = 11;
  private static final int[] WILD = {-1, 0, 1, 4, 5, 16, 32, 33, 63, 64, 65, 99, 100, 101, 255, 256, Integer.MAX_VALUE, Integer.MIN_VALUE};
  private static final int[] ORDERS = {27, 30, 39, 45, 54, 57, 75, 78, 99, 108, 114, 120, 135, 141, 147, 156, 177, 180, 198, 201, 210, 216, 225, 228};
  private static final String[] PARTS = {"!", "(", ")", "&", "|", "a", "b", "c", "d", "<", "=", ">", "0", "1", "2", "9", "e", " "};
  private static final long[] BASES = {404, 202, 2020202, 205, 303, 304, 408, 804, 1602, 216, 3131, 202020202, 302020202, 30203, 40402,
      16, 32, 17, 5, 3, 2, 60505, 50605, 3030303, 7020202, 0, -1, 40004, 1, 33, 20202020202L, 9223372036854775807L};

  private final Random chance;
  private final SlicedRows x = new SlicedRows();
  private final Model m = new Model();
  private final List<String> made = new ArrayList<>();
  private String call = "";
  private long got;
  private long want;

  private ModelTest(long seed) {
    chance = new Random(seed);
  }

  public static void main(String[] args) {
    int runs = args.length > 1 ? Integer.parseInt(args[1]) : RUNS;
    int wrong = 0;
    for (int run = 0; run < runs && wrong < 5; run++) {
      if (!new ModelTest(run).run(run)) wrong++;
    }
    System.out.println("ModelTest: " + runs + " runs of " + CALLS + " calls, " + wrong + " wrong");
    if (wrong != 0) System.exit(1);
  }

  private boolean run(int run) {
    boolean sizesFirst = chance.nextBoolean();
    for (int column = 0; sizesFirst && column < 4; column++) size(column, 2 + chance.nextInt(31));
    while (got == want && made.size() < CALLS - 1) one();
    if (got == want) told("digest()", x.digest(), m.digest());
    if (got == want) return true;
    System.out.println("run " + run + ", call " + made.size() + ": " + call + " answered " + got + ", due is " + want);
    for (int j = Math.max(0, made.size() - 12); j < made.size(); j++) System.out.println("    " + made.get(j));
    return false;
  }

  private int near(int n) {
    return chance.nextInt(20) == 0 ? WILD[chance.nextInt(WILD.length)] : chance.nextInt(n);
  }

  private int column() {
    return near(4);
  }

  private int order() {
    return chance.nextInt(12) == 0 ? near(256) : ORDERS[chance.nextInt(ORDERS.length)];
  }

  private int number(int column) {
    return column >= 0 && column < 4 ? near(m.about(column, 0)) : near(16);
  }

  private int vectorOf(int column) {
    return column >= 0 && column < 4 ? near(m.about(column, 3)) : near(16);
  }

  /** The first answers that are unlike stay told. */
  private void told(String said, long fromClass, long fromModel) {
    if (got != want) return;
    call = said;
    got = fromClass;
    want = fromModel;
    made.add(call + " " + got);
  }

  private void size(int column, int c) {
    told("size(" + column + ", " + c + ")", x.size(column, c), m.size(column, c));
  }

  private void one() {
    switch (chance.nextInt(10)) {
      case 0: case 1: case 2: rows(); break;
      case 3: designs(); break;
      case 4: page(); break;
      case 5: case 6: questions(); break;
      case 7: torn(); break;
      case 8: squeezed(); break;
      default: rest(); break;
    }
  }

  private void rows() {
    int line = near(64);
    int column = column();
    int v = number(column);
    switch (chance.nextInt(9)) {
      case 0: size(column, near(34)); break;
      case 1: case 2:
        int a = number(0), b = number(1), c = number(2), d = number(3);
        told("row(" + a + ", " + b + ", " + c + ", " + d + ")", x.row(a, b, c, d), m.row(a, b, c, d));
        break;
      case 3:
        int seed = chance.nextInt(10) == 0 ? near(99) : chance.nextInt() & Integer.MAX_VALUE;
        int n = chance.nextInt(3) == 0 ? near(66) : 1 + chance.nextInt(6);
        told("fill(" + seed + ", " + n + ")", x.fill(seed, n), m.fill(seed, n));
        break;
      case 4: case 5:
        told("set(" + line + ", " + column + ", " + v + ")", x.set(line, column, v), m.set(line, column, v));
        break;
      case 6: case 7: told("drop(" + line + ")", x.drop(line), m.drop(line)); break;
      default: told("get(" + line + ", " + column + ")", x.get(line, column), m.get(line, column)); break;
    }
  }

  private void designs() {
    int column = column();
    int what = chance.nextBoolean() ? near(5) : 10 + near(5);
    int e = near(10);
    int l = near(10);
    int v = vectorOf(column);
    switch (chance.nextInt(7)) {
      case 0: case 1:
        int sort = near(2);
        long bases = chance.nextBoolean() ? BASES[chance.nextInt(BASES.length)] : aDesign(column);
        told("design(" + column + ", " + sort + ", " + bases + ")", x.design(column, sort, bases), m.design(column, sort, bases));
        break;
      case 2: told("about(" + column + ", " + what + ")", x.about(column, what), m.about(column, what)); break;
      case 3: told("vector(" + column + ", " + v + ")", x.vector(column, v), m.vector(column, v)); break;
      case 4:
        int how = near(2);
        int c = number(column);
        told("reads(" + column + ", " + how + ", " + c + ")", x.reads(column, how, c), m.reads(column, how, c));
        break;
      case 5: told("cost(" + column + ", " + e + ", " + l + ")", x.cost(column, e, l), m.cost(column, e, l)); break;
      default:
        int room = near(chance.nextBoolean() ? 12 : 66);
        told("best(" + column + ", " + room + ", " + e + ", " + l + ", " + what + ")", x.best(column, room, e, l, what), m.best(column, room, e, l, what));
        break;
    }
  }

  /** Bases that hold a column's size, often without a needless one. */
  private long aDesign(int column) {
    int size = column >= 0 && column < 4 ? m.about(column, 0) : 16;
    long bases = 0;
    long place = 1;
    for (int product = 1; product < size && place < 10000000000L; place *= 100) {
      int base = 2 + chance.nextInt(chance.nextBoolean() ? 4 : 20);
      bases += base * place;
      product *= base;
    }
    return bases;
  }

  private void page() {
    switch (chance.nextInt(6)) {
      case 0: letters(chance.nextInt(4) == 0 ? chance.nextLong() : near(200)); break;
      case 1: told("blank()", x.blank(), m.blank()); break;
      case 2: told("good()", x.good(), m.good()); break;
      case 3: told("ask()", x.ask(), m.ask()); break;
      default: if (made.size() + CALLS_OF_A_TEXT < CALLS) wholeText(); break;
    }
  }

  private void letters(long w) {
    told("letters(" + w + ")", x.letters(w), m.letters(w));
  }

  /** A text, whole or spoilt, comes onto the page and is asked. */
  private void wholeText() {
    StringBuilder text = new StringBuilder();
    terms(text, 0);
    if (text.length() > 60) text.setLength(60);
    if (chance.nextInt(4) == 0) {
      int at = chance.nextInt(text.length());
      text.replace(at, at + chance.nextInt(2), PARTS[chance.nextInt(PARTS.length)]);
    }
    if (chance.nextInt(4) != 0) told("blank()", x.blank(), m.blank());
    for (int i = 0; i < text.length(); i += 8) {
      letters(Due.word(text.substring(i, Math.min(i + 8, text.length()))));
      if (got != want) return;
    }
    told("good() of " + text, x.good(), m.good());
    if (got != want) return;
    told("ask() of " + text, x.ask(), m.ask());
  }

  private void terms(StringBuilder text, int depth) {
    factor(text, depth);
    while (chance.nextInt(5) < 2) {
      text.append(chance.nextBoolean() ? '&' : '|');
      factor(text, depth);
    }
  }

  private void factor(StringBuilder text, int depth) {
    int kind = chance.nextInt(6);
    if (depth < 6 && kind == 0) {
      text.append('!');
      factor(text, depth + 1);
    } else if (depth < 6 && kind == 1) {
      text.append('(');
      terms(text, depth + 1);
      text.append(')');
    } else {
      text.append((char) ('a' + chance.nextInt(4))).append("<=>".charAt(chance.nextInt(3)));
      text.append(chance.nextInt(chance.nextInt(8) == 0 ? 100 : 18));
    }
  }

  private void questions() {
    int known = Math.max(1, m.count(1));
    int question = chance.nextInt(12) == 0 ? near(9) : chance.nextInt(known);
    int column = column();
    int v = number(column);
    int k = near(20);
    int what = near(4);
    switch (chance.nextInt(5)) {
      case 0: told("leaves(" + question + ")", x.leaves(question), m.leaves(question)); break;
      case 1: told("asked(" + question + ", " + what + ")", x.asked(question, what), m.asked(question, what)); break;
      case 2: told("sum(" + question + ", " + column + ")", x.sum(question, column), m.sum(question, column)); break;
      case 3: told("least(" + question + ", " + column + ", " + k + ")", x.least(question, column, k), m.least(question, column, k)); break;
      default: told("group(" + question + ", " + column + ", " + v + ")", x.group(question, column, v), m.group(question, column, v)); break;
    }
  }

  private void torn() {
    int column = column();
    int v = vectorOf(column);
    switch (chance.nextInt(4)) {
      case 0: told("tear(" + column + ", " + v + ")", x.tear(column, v), m.tear(column, v)); break;
      case 1: case 2: told("mend(" + column + ")", x.mend(column), m.mend(column)); break;
      default: told("parity(" + column + ")", x.parity(column), m.parity(column)); break;
    }
  }

  private void squeezed() {
    int column = column();
    int v = vectorOf(column);
    int order = order();
    boolean turning = chance.nextBoolean();
    int i = near(chance.nextBoolean() ? 12 : 64);
    switch (chance.nextInt(5)) {
      case 0: case 1:
        told("words(" + column + ", " + v + ", " + order + ", " + turning + ")", x.words(column, v, order, turning), m.words(column, v, order, turning));
        break;
      case 2: told("all(" + order + ", " + turning + ")", x.all(order, turning), m.all(order, turning)); break;
      case 3: told("placed(" + order + ", " + turning + ", " + i + ")", x.placed(order, turning, i), m.placed(order, turning, i)); break;
      default:
        int what = chance.nextInt(3) == 0 ? near(4) : 5;
        told("order(" + what + ")", x.order(what), m.order(what));
        break;
    }
  }

  private void rest() {
    int mark = near(4);
    int what = near(9);
    switch (chance.nextInt(8)) {
      case 0: case 1: told("undo()", x.undo(), m.undo()); break;
      case 2: if (chance.nextInt(3) == 0) told("mark()", x.mark(), m.mark()); break;
      case 3: if (chance.nextInt(3) == 0) told("back(" + mark + ")", x.back(mark), m.back(mark)); break;
      case 4: case 5: told("count(" + what + ")", x.count(what), m.count(what)); break;
      default: told("digest()", x.digest(), m.digest()); break;
    }
  }
}
