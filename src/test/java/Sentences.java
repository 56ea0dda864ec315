/**
 * Tests each of which stands for a sentence of the document that names a boundary case: it tells
 * the sentence's words, which must stand there, and fails if nothing was checked for it.
 */
abstract class Sentences {
  static final int WHOLE = Told.WHOLE;
  static final int MIN = Told.MIN;
  static final int MAX = Told.MAX;
  static final int TERMS = 0;
  static final String ALL = "ooooo ooooo ooooo ooooo ooooo";
  static final String NONE = "..... ..... ..... ..... .....";
  static final String HALVES = "ooooo ooooo ..... ooooo ooooo";

  final Checks checks;
  private final Document document = new Document();
  private final boolean[] promises = new boolean[Document.PROMISES + 1];
  private int tested = 0;
  private String words = "";

  Sentences(String name) {
    checks = new Checks(name);
  }

  /** One test of the words of a promise (or of TERMS, all that stands ahead of the promises). */
  final void says(int promise, String words, Runnable test) {
    this.words = words;
    String place = promise == TERMS ? "ahead of the promises" : "promise " + promise;
    checks.holds(place + " says: " + words, document.says(promise, words));
    int before = checks.done();
    test.run();
    checks.holds("tested: " + words, checks.done() > before);
    promises[promise] = true;
    tested++;
  }

  final boolean isTested(int promise) {
    return promises[promise];
  }

  final void due(String what, long got, long want) {
    checks.due("\"" + words + "\": " + what, got, want);
  }

  final void ends() {
    System.out.println(tested + " sentences tested");
    checks.ends();
  }

  static CoresAreWills of(String heirs, String picture) {
    return Told.of(heirs, picture);
  }

  static int core(String text) {
    return Told.tell(new CoresAreWills(), text);
  }

  static String two(int number) {
    return "" + number / 10 + number % 10;
  }
}
