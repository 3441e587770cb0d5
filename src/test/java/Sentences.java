import java.util.ArrayList;
import java.util.List;

/** Every answer that is looked at belongs to a promise and to a sentence of it that the document has, word by word. */
final class Sentences {
  private final Due due = new Due("PromisesTest");
  private final Document document;
  private final List<Run> runs = new ArrayList<>();
  private String now = "";
  private int heldBefore = 0;
  private int sentences = 0;

  Sentences(Document document) {
    this.document = document;
  }

  /** From here on a sentence of a promise is held. */
  void promise(int number, String sentence) {
    begin("Promise " + number, sentence);
  }

  /** From here on a sentence is held that stands outside the promises. */
  void terms(String sentence) {
    begin(Document.TERMS, sentence);
  }

  private void begin(String part, String sentence) {
    finish();
    now = part + ", <" + sentence + ">";
    due.holds(now + " stands in the document", document.quote(part, sentence));
    heldBefore = due.looked();
    sentences++;
  }

  private void finish() {
    int held = due.looked() - heldBefore;
    if (!now.isEmpty()) due.holds(now + " has a test", held > 0);
    for (Run run : runs) run.finish();
    runs.clear();
  }

  Run start() {
    Run run = new Run(this);
    runs.add(run);
    return run;
  }

  void is(String call, long got, long want) {
    due.is(now + ": " + call, got, want);
  }

  void holds(String what, boolean held) {
    due.holds(now + ": " + what, held);
  }

  void end() {
    finish();
    due.is("promises of the document", document.promises(), 34);
    for (String left : document.unquoted()) due.holds("a test holds <" + left + ">", false);
    System.out.println("PromisesTest: " + sentences + " sentences held");
    due.end();
  }
}
