/**
 * Every sentence of the terms and of promises 1 to 34 that can be held against an answer, each with a test of its own that
 * quotes it: ordinary numbers, the edges that it names, and what is refused. A sentence that no test quotes is a fault.
 */
public final class PromisesTest {
  private static final String DOCUMENT = "../shared/DOC.md";

  public static void main(String[] args) throws Exception {
    Sentences s = new Sentences(new Document(DOCUMENT));
    new RowsPromises(s).look();
    new DesignTerms(s).look();
    new DesignsPromises(s).look();
    new QuestionTerms(s).look();
    new QuestionsPromises(s).look();
    new TornPromises(s).look();
    new SqueezedPromises(s).look();
    new ChangesPromises(s).look();
    new ToldPromises(s).look();
    s.end();
  }
}
