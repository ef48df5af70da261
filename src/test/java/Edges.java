/** Tests of single sentences of the document, each by a run of its own. */
final class Edges {
  interface Edge {
    void on(Run run);
  }

  private final String title;
  private int passed;
  private int failed;

  Edges(String title) {
    this.title = title;
  }

  /** Tests a sentence of the document, which stands here in the document's words. */
  void says(String sentence, Edge edge) {
    Check check = new Check(sentence);
    Run run = new Run(check);
    edge.on(run);
    run.end();
    if (check.isRight()) {
      passed++;
    } else {
      failed++;
    }
  }

  /** Ends the program with exit code 1 if a sentence does not hold. */
  void end() {
    System.out.println(title + ": " + passed + " passed, " + failed + " failed");
    if (failed > 0 || passed == 0) {
      System.exit(1);
    }
  }
}
