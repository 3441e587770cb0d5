import java.util.ArrayList;
import java.util.List;

/**
 * An object in a test and its twin, which gets every call but the refused ones: if a refusal changes anything, the two
 * answer unlike from then on.
 */
final class Run extends Calls {
  private static final int MOST_CALLS = 512;
  private static final int SHOWN = 8;
  private final Sentences sentences;
  private final SlicedRows x = new SlicedRows();
  private final SlicedRows twin = new SlicedRows();
  private final List<String> calls = new ArrayList<>();

  Run(Sentences sentences) {
    this.sentences = sentences;
  }

  private long answer(String text, Call call) {
    long got = call.on(x);
    calls.add(text + " " + got);
    return got;
  }

  @Override
  long made(String text, Call call) {
    long got = answer(text, call);
    long ofTwin = call.on(twin);
    if (got != ofTwin) sentences.is(text + " where a twin was refused nothing" + before(), got, ofTwin);
    return got;
  }

  /** The calls before the last one. */
  private String before() {
    int last = calls.size() - 1;
    return " (behind " + (last > SHOWN ? ".. " : "") + calls.subList(Math.max(0, last - SHOWN), last) + ")";
  }

  /** The next call is to answer this. */
  Calls due(long want) {
    return new Calls() {
      @Override
      long made(String text, Call call) {
        long got = Run.this.made(text, call);
        sentences.is(text + before(), got, want);
        return got;
      }
    };
  }

  /** The next call is to answer this and to change nothing. */
  Calls refuses(long want) {
    return new Calls() {
      @Override
      long made(String text, Call call) {
        long got = answer(text, call);
        sentences.is(text + before(), got, want);
        return got;
      }
    };
  }

  /** Puts a text behind the page, by as few calls as can be. */
  Run write(String text) {
    for (int i = 0; i < text.length(); i += 8) letters(text.substring(i, Math.min(i + 8, text.length())));
    return this;
  }

  int ask(String text) {
    return write(text).ask();
  }

  /** What the object answers behind its 512th call is free. */
  void finish() {
    if (calls.size() < MOST_CALLS) digest();
    sentences.holds("512 calls at most, not " + calls.size(), calls.size() <= MOST_CALLS);
  }
}
