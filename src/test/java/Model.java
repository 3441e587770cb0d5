import java.util.ArrayList;
import java.util.Arrays;
import java.util.Collections;
import java.util.Comparator;
import java.util.HashMap;
import java.util.LinkedHashSet;
import java.util.List;
import java.util.Map;
import java.util.Set;
import java.util.TreeSet;

/** The document once more, as slowly and as near to its words as can be, to look at the class against it. */
final class Model {
  static final int NONE = -1, UNKNOWN = -101, OUTSIDE = -102, STATE = -103, FULL = -104;

  record Design(int sort, List<Integer> bases) {
    int room() {
      int room = 0;
      for (int i = 0; i < bases.size(); i++) room += vectorsOf(i);
      return room;
    }

    int vectorsOf(int i) {
      int b = bases.get(i);
      if (sort == 1) return b - 1;
      return b == 2 ? 1 : b;
    }

    int firstOf(int i) {
      int first = 0;
      for (int j = 0; j < i; j++) first += vectorsOf(j);
      return first;
    }

    int figure(int number, int i) {
      for (int j = 0; j < i; j++) number /= bases.get(j);
      return number % bases.get(i);
    }

    /** Whether a number has a 1 in a vector. */
    boolean bit(int number, int vector) {
      int i = 0;
      while (vector >= firstOf(i) + vectorsOf(i)) i++;
      int v = vector - firstOf(i);
      int f = figure(number, i);
      if (sort == 1) return f <= v;
      return bases.get(i) == 2 ? f == 1 : f == v;
    }

    Set<Integer> equal(int i, int v) {
      Set<Integer> read = new TreeSet<>();
      int b = bases.get(i);
      int first = firstOf(i);
      if (sort == 0) read.add(first + (b == 2 ? 0 : v));
      else if (v == 0) read.add(first);
      else if (v == b - 1) read.add(first + v - 1);
      else {
        read.add(first + v - 1);
        read.add(first + v);
      }
      return read;
    }

    Set<Integer> below(int i, int v) {
      Set<Integer> read = new TreeSet<>();
      int b = bases.get(i);
      int first = firstOf(i);
      if (sort == 1) read.add(first + v - 1);
      else if (b == 2) read.add(first);
      else if (v > b / 2.0) for (int j = v; j < b; j++) read.add(first + j);
      else for (int j = 0; j < v; j++) read.add(first + j);
      return read;
    }

    Set<Integer> reads(int how, int c, int size) {
      Set<Integer> read = new TreeSet<>();
      if (c >= size || (how == 1 && c == 0)) return read;
      for (int i = 0; i < bases.size(); i++) {
        int f = figure(c, i);
        boolean lower = !read.isEmpty();
        if (how == 0) read.addAll(equal(i, f));
        else {
          if (f != 0) read.addAll(below(i, f));
          if (lower) read.addAll(equal(i, f));
        }
      }
      return read;
    }

    int total(int how, int size) {
      int total = 0;
      for (int c = how; c < size; c++) total += reads(how, c, size).size();
      return total;
    }

    boolean fits(int size) {
      if (bases.isEmpty() || bases.size() > 5) return false;
      long product = 1;
      for (int b : bases) {
        if (b < 2 || b > 32) return false;
        product *= b;
      }
      for (int b : bases) if (product / b >= size) return false;
      return product >= size && room() <= 64;
    }
  }

  record Priced(Design design, int equal, int below) { }

  private static final Map<Integer, List<Priced>> ALL = new HashMap<>();

  /** Every design of a size, with what all "=" and all "<" read. */
  static List<Priced> allDesigns(int size) {
    return ALL.computeIfAbsent(size, c -> {
      List<Priced> all = new ArrayList<>();
      for (int sort = 0; sort <= 1; sort++) gather(all, sort, new ArrayList<>(), c);
      return all;
    });
  }

  private static void gather(List<Priced> all, int sort, List<Integer> bases, int size) {
    Design design = new Design(sort, new ArrayList<>(bases));
    if (design.fits(size)) all.add(new Priced(design, design.total(0, size), design.total(1, size)));
    int product = 1;
    for (int b : bases) product *= b;
    if (bases.size() == 5 || product >= size) return;
    for (int b = 2; b <= 32; b++) {
      bases.add(b);
      gather(all, sort, bases, size);
      bases.remove(bases.size() - 1);
    }
  }

  private static int compareBases(List<Integer> one, List<Integer> other) {
    for (int i = 0; i < Math.min(one.size(), other.size()); i++) {
      int c = one.get(i).compareTo(other.get(i));
      if (c != 0) return c;
    }
    return 0;
  }

  private final int[][] rows = new int[64][];
  private final int[] sizes = {16, 16, 16, 16};
  private final Design[] designs = new Design[4];
  private final List<Set<Integer>> torn = new ArrayList<>();
  private String page = "";
  private final List<String> questions = new ArrayList<>();
  /** Whole tables as they were, one for each change. */
  private final List<int[][]> changes = new ArrayList<>();
  private final List<int[][]> marks = new ArrayList<>();
  private int bests = 0;
  private int orders = 0;

  Model() {
    for (int column = 0; column < 4; column++) {
      designs[column] = new Design(0, List.of(16));
      torn.add(new TreeSet<>());
    }
  }

  private int[][] copy() {
    int[][] copy = new int[64][];
    for (int line = 0; line < 64; line++) copy[line] = rows[line] == null ? null : rows[line].clone();
    return copy;
  }

  private void restore(int[][] kept) {
    for (int line = 0; line < 64; line++) rows[line] = kept[line] == null ? null : kept[line].clone();
  }

  private void changing() {
    changes.add(copy());
    if (changes.size() > 100) changes.remove(0);
  }

  private int rowCount() {
    int n = 0;
    for (int[] row : rows) if (row != null) n++;
    return n;
  }

  private static boolean isColumn(int column) {
    return column >= 0 && column <= 3;
  }

  private boolean isVector(int column, int v) {
    return isColumn(column) && v >= 0 && v < designs[column].room();
  }

  private boolean isRow(int line) {
    return line >= 0 && line <= 63 && rows[line] != null;
  }

  private static boolean isWithin(int v, int least, int most) {
    return v >= least && v <= most;
  }

  int size(int column, int c) {
    if (!isColumn(column)) return UNKNOWN;
    if (!isWithin(c, 2, 32)) return OUTSIDE;
    if (rowCount() > 0 || !marks.isEmpty()) return STATE;
    int was = sizes[column];
    sizes[column] = c;
    designs[column] = new Design(0, List.of(c));
    torn.get(column).clear();
    changes.clear();
    return was;
  }

  int row(int a, int b, int c, int d) {
    int[] row = {a, b, c, d};
    for (int i = 0; i < 4; i++) if (!isWithin(row[i], 0, sizes[i] - 1)) return OUTSIDE;
    for (int line = 0; line < 64; line++) {
      if (rows[line] == null) {
        changing();
        rows[line] = row;
        return line;
      }
    }
    return FULL;
  }

  int fill(int x, int n) {
    if (x < 0 || !isWithin(n, 1, 64)) return OUTSIDE;
    long seed = x;
    int came = 0;
    while (came < n && rowCount() < 64) {
      int[] v = new int[4];
      for (int i = 0; i < 4; i++) {
        seed = (1103515245L * seed + 12345L) % (1L << 31);
        v[i] = (int) (seed / 65536L % sizes[i]);
      }
      row(v[0], v[1], v[2], v[3]);
      came++;
    }
    return came;
  }

  int set(int line, int column, int v) {
    if (!isRow(line) || !isColumn(column)) return UNKNOWN;
    if (!isWithin(v, 0, sizes[column] - 1)) return OUTSIDE;
    changing();
    int was = rows[line][column];
    rows[line][column] = v;
    return was;
  }

  int drop(int line) {
    if (!isRow(line)) return UNKNOWN;
    changing();
    rows[line] = null;
    return rowCount();
  }

  int get(int line, int column) {
    if (!isWithin(line, 0, 63) || !isColumn(column)) return UNKNOWN;
    return rows[line] == null ? NONE : rows[line][column];
  }

  int design(int column, int sort, long bases) {
    if (!isColumn(column)) return UNKNOWN;
    if (sort != 0 && sort != 1) return OUTSIDE;
    if (bases <= 0) return OUTSIDE;
    List<Integer> told = new ArrayList<>();
    for (long rest = bases; rest > 0; rest /= 100) told.add((int) (rest % 100));
    Design design = new Design(sort, told);
    if (!design.fits(sizes[column])) return OUTSIDE;
    designs[column] = design;
    torn.get(column).clear();
    return design.room();
  }

  int about(int column, int what) {
    if (!isColumn(column)) return UNKNOWN;
    Design design = designs[column];
    if (what == 0) return sizes[column];
    if (what == 1) return design.sort();
    if (what == 2) return design.bases().size();
    if (what == 3) return design.room();
    if (what == 4) return torn.get(column).size();
    if (!isWithin(what, 10, 14)) return OUTSIDE;
    return what - 10 < design.bases().size() ? design.bases().get(what - 10) : NONE;
  }

  private boolean[] bits(int column, int v) {
    boolean[] bits = new boolean[64];
    for (int line = 0; line < 64; line++) bits[line] = rows[line] != null && designs[column].bit(rows[line][column], v);
    return bits;
  }

  private static long asLong(boolean[] bits) {
    long w = 0;
    for (int i = 0; i < 64; i++) if (bits[i]) w |= 1L << i;
    return w;
  }

  private static long asLong(Set<Integer> some) {
    long w = 0;
    for (int i : some) w |= 1L << i;
    return w;
  }

  long vector(int column, int v) {
    if (!isVector(column, v) || torn.get(column).contains(v)) return 0;
    return asLong(bits(column, v));
  }

  long reads(int column, int how, int c) {
    if (!isColumn(column) || !isWithin(how, 0, 1) || !isWithin(c, 0, 99)) return 0;
    return asLong(designs[column].reads(how, c, sizes[column]));
  }

  int cost(int column, int e, int l) {
    if (!isColumn(column)) return UNKNOWN;
    if (!isWithin(e, 0, 9) || !isWithin(l, 0, 9)) return OUTSIDE;
    return e * designs[column].total(0, sizes[column]) + l * designs[column].total(1, sizes[column]);
  }

  int best(int column, int room, int e, int l, int what) {
    if (!isColumn(column)) return UNKNOWN;
    if (!isWithin(room, 1, 64) || !isWithin(e, 0, 9) || !isWithin(l, 0, 9)) return OUTSIDE;
    if (!isWithin(what, 0, 3) && !isWithin(what, 10, 14)) return OUTSIDE;
    if (bests == 30) return STATE;
    bests++;
    List<Priced> some = new ArrayList<>();
    for (Priced p : allDesigns(sizes[column])) if (p.design().room() <= room) some.add(p);
    if (some.isEmpty()) return NONE;
    Comparator<Priced> better = Comparator.comparingInt(p -> e * p.equal() + l * p.below());
    Priced p = Collections.min(some, better.thenComparingInt(q -> q.design().room())
        .thenComparingInt(q -> q.design().sort())
        .thenComparingInt(q -> q.design().bases().size())
        .thenComparing((q, r) -> compareBases(q.design().bases(), r.design().bases())));
    if (what == 0) return e * p.equal() + l * p.below();
    if (what == 1) return p.design().room();
    if (what == 2) return p.design().sort();
    if (what == 3) return p.design().bases().size();
    return what - 10 < p.design().bases().size() ? p.design().bases().get(what - 10) : NONE;
  }

  int letters(long w) {
    StringBuilder came = new StringBuilder();
    boolean ended = false;
    for (int i = 0; i < 8; i++) {
      int code = (int) ((w >>> (8 * i)) & 255);
      if (code > 126 || (ended && code != 0)) return OUTSIDE;
      if (code == 0) ended = true;
      else came.append((char) code);
    }
    if (page.length() + came.length() > 60) return FULL;
    page += came;
    return page.length();
  }

  int blank() {
    int had = page.length();
    page = "";
    return had;
  }

  /** A reading of a text from its first letter; null as an answer where it is no question. */
  private static final class Reading {
    final String text;
    final int[] row;
    final List<int[]> comparisons = new ArrayList<>();
    int at = 0;
    boolean bad = false;

    Reading(String text, int[] row) {
      this.text = text;
      this.row = row;
    }

    char next() {
      return at < text.length() ? text.charAt(at) : (char) 0;
    }

    boolean terms() {
      boolean held = term();
      while (next() == '|') {
        at++;
        held |= term();
      }
      return held;
    }

    boolean term() {
      boolean held = factor();
      while (next() == '&') {
        at++;
        held &= factor();
      }
      return held;
    }

    boolean factor() {
      if (bad) return false;
      if (next() == '!') {
        at++;
        return !factor();
      }
      if (next() == '(') {
        at++;
        boolean held = terms();
        if (next() != ')') bad = true;
        at++;
        return held;
      }
      if (!text.substring(Math.min(at, text.length())).matches("(?s)[a-d][<=>][0-9].*")) {
        bad = true;
        return false;
      }
      int column = text.charAt(at) - 'a';
      char sign = text.charAt(at + 1);
      int number = text.charAt(at + 2) - '0';
      at += 3;
      if (next() >= '0' && next() <= '9') {
        number = 10 * number + next() - '0';
        at++;
      }
      comparisons.add(new int[] {column, sign, number});
      if (sign == '<') return row[column] < number;
      return sign == '=' ? row[column] == number : row[column] > number;
    }
  }

  static boolean isQuestion(String text) {
    Reading reading = new Reading(text, new int[4]);
    reading.terms();
    return !reading.bad && reading.at == text.length();
  }

  /** Tries ends: what stands open is closed by one of a few texts and as many brackets as it needs. */
  static boolean begins(String text) {
    for (String end : new String[] {"", "1", "=1", "a=1"}) {
      StringBuilder closed = new StringBuilder(text).append(end);
      for (int i = 0; i <= text.length(); i++) {
        if (isQuestion(closed.toString())) return true;
        closed.append(')');
      }
    }
    return false;
  }

  int good() {
    for (int n = page.length(); n > 0; n--) if (begins(page.substring(0, n))) return n;
    return 0;
  }

  int ask() {
    if (!isQuestion(page)) return STATE;
    if (questions.size() == 8) return FULL;
    questions.add(page);
    page = "";
    return questions.size() - 1;
  }

  private boolean isAsked(int question) {
    return question >= 0 && question < questions.size();
  }

  private List<int[]> comparisons(int question) {
    Reading reading = new Reading(questions.get(question), new int[4]);
    reading.terms();
    return reading.comparisons;
  }

  private Set<List<Integer>> readBy(int question) {
    Set<List<Integer>> read = new LinkedHashSet<>();
    for (int[] c : comparisons(question)) {
      int how = c[1] == '=' ? 0 : 1;
      int number = c[1] == '>' ? c[2] + 1 : c[2];
      for (int v : designs[c[0]].reads(how, number, sizes[c[0]])) read.add(List.of(c[0], v));
    }
    return read;
  }

  private boolean fails(int question) {
    for (List<Integer> read : readBy(question)) if (torn.get(read.get(0)).contains(read.get(1))) return true;
    return false;
  }

  private List<Integer> left(int question) {
    List<Integer> left = new ArrayList<>();
    for (int line = 0; line < 64; line++) {
      if (rows[line] != null && new Reading(questions.get(question), rows[line]).terms()) left.add(line);
    }
    return left;
  }

  long leaves(int question) {
    if (!isAsked(question) || fails(question)) return 0;
    return asLong(new TreeSet<>(left(question)));
  }

  int asked(int question, int what) {
    if (!isAsked(question)) return UNKNOWN;
    if (what == 0) return readBy(question).size();
    if (what == 1) return comparisons(question).size();
    if (what == 2) return fails(question) ? 1 : 0;
    if (what == 3) return fails(question) ? STATE : left(question).size();
    return OUTSIDE;
  }

  int sum(int question, int column) {
    if (!isAsked(question) || !isColumn(column)) return UNKNOWN;
    if (fails(question)) return STATE;
    int sum = 0;
    for (int line : left(question)) sum += rows[line][column];
    return sum;
  }

  int least(int question, int column, int k) {
    if (!isAsked(question) || !isColumn(column)) return UNKNOWN;
    if (fails(question)) return STATE;
    List<Integer> left = left(question);
    left.sort(Comparator.<Integer>comparingInt(line -> rows[line][column]).thenComparingInt(line -> line));
    return k >= 0 && k < left.size() ? left.get(k) : NONE;
  }

  int group(int question, int column, int v) {
    if (!isAsked(question) || !isColumn(column)) return UNKNOWN;
    if (!isWithin(v, 0, sizes[column] - 1)) return OUTSIDE;
    if (fails(question)) return STATE;
    int many = 0;
    for (int line : left(question)) if (rows[line][column] == v) many++;
    return many;
  }

  int tear(int column, int v) {
    if (!isVector(column, v)) return UNKNOWN;
    if (!torn.get(column).add(v)) return STATE;
    return torn.get(column).size();
  }

  int mend(int column) {
    if (!isColumn(column)) return UNKNOWN;
    if (torn.get(column).size() != 1) return STATE;
    int was = torn.get(column).iterator().next();
    torn.get(column).clear();
    return was;
  }

  long parity(int column) {
    if (!isColumn(column)) return 0;
    long parity = 0;
    for (int v = 0; v < designs[column].room(); v++) parity ^= asLong(bits(column, v));
    return parity;
  }

  private static int[] permutation(int order) {
    if (order < 0 || order > 255) return null;
    int[] columns = {order / 64, order / 16 % 4, order / 4 % 4, order % 4};
    int[] sorted = columns.clone();
    Arrays.sort(sorted);
    return Arrays.equals(sorted, new int[] {0, 1, 2, 3}) ? columns : null;
  }

  private List<Integer> arranged(int[] p, boolean turning) {
    List<List<Integer>> runs = new ArrayList<>();
    List<Integer> all = new ArrayList<>();
    for (int line = 0; line < 64; line++) if (rows[line] != null) all.add(line);
    runs.add(all);
    for (int level = 0; level < 4; level++) {
      List<List<Integer>> next = new ArrayList<>();
      int column = p[level];
      for (int i = 0; i < runs.size(); i++) {
        boolean falls = turning && level > 0 && i % 2 == 1;
        TreeSet<Integer> numbers = new TreeSet<>();
        for (int line : runs.get(i)) numbers.add(rows[line][column]);
        for (int v : falls ? numbers.descendingSet() : numbers) {
          List<Integer> run = new ArrayList<>();
          for (int line : runs.get(i)) if (rows[line][column] == v) run.add(line);
          next.add(run);
        }
      }
      runs = next;
    }
    List<Integer> lines = new ArrayList<>();
    for (List<Integer> run : runs) lines.addAll(run);
    for (int line = 0; line < 64; line++) if (rows[line] == null) lines.add(line);
    return lines;
  }

  private int squeezed(int column, int v, List<Integer> lines) {
    StringBuilder text = new StringBuilder();
    boolean[] bits = bits(column, v);
    for (int line : lines) text.append(bits[line] ? '1' : '0');
    int words = 0;
    String before = "";
    for (int from = 0; from < 64; from += 7) {
      String group = text.substring(from, Math.min(from + 7, 64));
      boolean fill = group.equals("0000000") || group.equals("1111111");
      if (!fill || !group.equals(before)) words++;
      before = fill ? group : "";
    }
    return words;
  }

  int words(int column, int v, int order, boolean turning) {
    if (!isVector(column, v)) return UNKNOWN;
    int[] p = permutation(order);
    return p == null ? OUTSIDE : squeezed(column, v, arranged(p, turning));
  }

  int all(int order, boolean turning) {
    int[] p = permutation(order);
    if (p == null) return OUTSIDE;
    List<Integer> lines = arranged(p, turning);
    int words = 0;
    for (int column = 0; column < 4; column++) {
      for (int v = 0; v < designs[column].room(); v++) words += squeezed(column, v, lines);
    }
    return words;
  }

  int placed(int order, boolean turning, int i) {
    int[] p = permutation(order);
    if (p == null || !isWithin(i, 0, 63)) return OUTSIDE;
    return arranged(p, turning).get(i);
  }

  int order(int what) {
    if (!isWithin(what, 0, 2)) return OUTSIDE;
    if (orders == 30) return STATE;
    orders++;
    List<int[]> all = new ArrayList<>();
    for (int order = 0; order < 256; order++) {
      if (permutation(order) == null) continue;
      for (int turn = 0; turn <= 1; turn++) all.add(new int[] {all(order, turn == 1), order, turn});
    }
    int[] best = Collections.min(all, Comparator.<int[]>comparingInt(o -> o[0]).thenComparingInt(o -> o[2]).thenComparingInt(o -> o[1]));
    return best[what];
  }

  int undo() {
    if (changes.isEmpty()) return STATE;
    restore(changes.remove(changes.size() - 1));
    return changes.size();
  }

  int mark() {
    if (marks.size() == 3) return FULL;
    marks.add(copy());
    return marks.size();
  }

  int back(int mark) {
    if (mark < 0 || mark >= marks.size()) return UNKNOWN;
    restore(marks.get(mark));
    while (marks.size() > mark + 1) marks.remove(marks.size() - 1);
    changes.clear();
    return rowCount();
  }

  int count(int what) {
    int vectors = 0;
    int tornOnes = 0;
    for (int column = 0; column < 4; column++) {
      vectors += designs[column].room();
      tornOnes += torn.get(column).size();
    }
    int[] counts = {rowCount(), questions.size(), page.length(), changes.size(), marks.size(), vectors, tornOnes, bests, orders};
    return isWithin(what, 0, 8) ? counts[what] : OUTSIDE;
  }

  long digest() {
    List<Long> told = new ArrayList<>();
    for (int line = 0; line < 64; line++) for (int column = 0; column < 4; column++) told.add((long) get(line, column));
    for (int column = 0; column < 4; column++) {
      for (int what = 0; what <= 4; what++) told.add((long) about(column, what));
      for (int what = 10; what <= 14; what++) told.add((long) about(column, what));
      told.add(parity(column));
    }
    for (int q = 0; q < questions.size(); q++) for (int what = 0; what <= 2; what++) told.add((long) asked(q, what));
    for (int i = 0; i < page.length(); i++) told.add((long) page.charAt(i));
    for (int what = 0; what <= 8; what++) told.add((long) count(what));
    long h = 263;
    for (long t : told) h = 31 * h + t;
    return h;
  }
}
