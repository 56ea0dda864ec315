/** Counts what was checked; a test program ends by it. */
final class Checks {
  private final String name;
  private int done = 0;
  private int wrong = 0;

  Checks(String name) {
    this.name = name;
  }

  void due(String what, long got, long want) {
    done++;
    if (got == want) return;
    wrong++;
    System.out.println(name + ": " + what + " answered " + got + ", due is " + want);
  }

  void holds(String what, boolean so) {
    due(what, so ? 1 : 0, 1);
  }

  int done() {
    return done;
  }

  /** Ends the program, with 1 if anything was wrong or nothing was checked. */
  void ends() {
    System.out.println(name + ": " + done + " checks, " + wrong + " wrong");
    if (wrong > 0 || done == 0) System.exit(1);
  }
}
