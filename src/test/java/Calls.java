/** Every call of the face, with its text; what becomes of a call, made() tells. */
abstract class Calls {
  interface Call {
    long on(SlicedRows x);
  }

  abstract long made(String text, Call call);

  private int asInt(String text, Call call) {
    return (int) made(text, call);
  }

  private static String text(String name, Object... told) {
    StringBuilder text = new StringBuilder(name).append('(');
    for (int i = 0; i < told.length; i++) text.append(i == 0 ? "" : ", ").append(told[i]);
    return text.append(')').toString();
  }

  int size(int column, int c) {
    return asInt(text("size", column, c), x -> x.size(column, c));
  }

  int row(int a, int b, int c, int d) {
    return asInt(text("row", a, b, c, d), x -> x.row(a, b, c, d));
  }

  int fill(int seed, int n) {
    return asInt(text("fill", seed, n), x -> x.fill(seed, n));
  }

  int set(int line, int column, int v) {
    return asInt(text("set", line, column, v), x -> x.set(line, column, v));
  }

  int drop(int line) {
    return asInt(text("drop", line), x -> x.drop(line));
  }

  int get(int line, int column) {
    return asInt(text("get", line, column), x -> x.get(line, column));
  }

  int design(int column, int sort, long bases) {
    return asInt(text("design", column, sort, bases), x -> x.design(column, sort, bases));
  }

  int about(int column, int what) {
    return asInt(text("about", column, what), x -> x.about(column, what));
  }

  long vector(int column, int v) {
    return made(text("vector", column, v), x -> x.vector(column, v));
  }

  long reads(int column, int how, int c) {
    return made(text("reads", column, how, c), x -> x.reads(column, how, c));
  }

  int cost(int column, int e, int l) {
    return asInt(text("cost", column, e, l), x -> x.cost(column, e, l));
  }

  int best(int column, int room, int e, int l, int what) {
    return asInt(text("best", column, room, e, l, what), x -> x.best(column, room, e, l, what));
  }

  int letters(long w) {
    return asInt(text("letters", w), x -> x.letters(w));
  }

  /** A word of up to eight letters. */
  int letters(String word) {
    return asInt("letters(\"" + word + "\")", x -> x.letters(Due.word(word)));
  }

  int blank() {
    return asInt("blank()", SlicedRows::blank);
  }

  int good() {
    return asInt("good()", SlicedRows::good);
  }

  int ask() {
    return asInt("ask()", SlicedRows::ask);
  }

  long leaves(int question) {
    return made(text("leaves", question), x -> x.leaves(question));
  }

  int asked(int question, int what) {
    return asInt(text("asked", question, what), x -> x.asked(question, what));
  }

  int sum(int question, int column) {
    return asInt(text("sum", question, column), x -> x.sum(question, column));
  }

  int least(int question, int column, int k) {
    return asInt(text("least", question, column, k), x -> x.least(question, column, k));
  }

  int group(int question, int column, int v) {
    return asInt(text("group", question, column, v), x -> x.group(question, column, v));
  }

  int tear(int column, int v) {
    return asInt(text("tear", column, v), x -> x.tear(column, v));
  }

  int mend(int column) {
    return asInt(text("mend", column), x -> x.mend(column));
  }

  long parity(int column) {
    return made(text("parity", column), x -> x.parity(column));
  }

  int words(int column, int v, int order, boolean turning) {
    return asInt(text("words", column, v, order, turning), x -> x.words(column, v, order, turning));
  }

  int all(int order, boolean turning) {
    return asInt(text("all", order, turning), x -> x.all(order, turning));
  }

  int placed(int order, boolean turning, int i) {
    return asInt(text("placed", order, turning, i), x -> x.placed(order, turning, i));
  }

  int order(int what) {
    return asInt(text("order", what), x -> x.order(what));
  }

  int undo() {
    return asInt("undo()", SlicedRows::undo);
  }

  int mark() {
    return asInt("mark()", SlicedRows::mark);
  }

  int back(int mark) {
    return asInt(text("back", mark), x -> x.back(mark));
  }

  int count(int what) {
    return asInt(text("count", what), x -> x.count(what));
  }

  long digest() {
    return made("digest()", SlicedRows::digest);
  }
}
