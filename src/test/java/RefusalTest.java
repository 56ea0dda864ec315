import java.util.ArrayList;
import java.util.Arrays;
import java.util.List;

/**
 * Every refusal, alone and beside each other one: the number that the call answers, the order in
 * which the document tells them, that nothing changes but how many there were, and that what is
 * not refused counts none. Calls that only ask change nothing at all.
 */
public final class RefusalTest {
  private interface Call {
    long on(CoresAreWills x, int[] a);
  }

  /** Whether a refusal fits; the object is one as it was before the call. */
  private interface Fits {
    boolean to(CoresAreWills before, int[] a);
  }

  private static final int MIN = Told.MIN;
  private static final int MAX = Told.MAX;
  private static final int[] CELL = {MIN, -1, 0, 1, 4, 5, 14, 23, 24, 25, MAX};
  private static final int[] HEIR = {MIN, -1, 0, 1, 2, 4, 5, MAX};
  private static final int[] KIND = {MIN, -1, 0, 5, 6, MAX};
  private static final int[] FIGURE = {MIN, -1, 0, 9, 10, MAX};
  private static final int[] SHAPE = {MIN, -1, 0, 1, 2, 3, 4, MAX};
  private static final int[] SHARE = {MIN, -1, 0, 40, 41, MAX};

  private static final int PLAIN = 0;
  private static final int FULL = 1;
  private static final int FRESH = 2;

  private final Checks checks = new Checks("RefusalTest");
  private final Document document = new Document();
  private final List<Integer> tested = new ArrayList<>();
  private int promise;
  private String name;
  private boolean asks;
  private Call call;
  private int[][] domains;
  private List<Integer> refusals;
  private List<Fits> rules;
  private int[] hits;

  public static void main(String[] args) {
    RefusalTest test = new RefusalTest();
    test.core();
    test.shares();
    test.bitesWeighed();
    test.odds();
    test.notRefused();
    test.allPromises();
    test.checks.ends();
  }

  // ---- how a promise is tested

  private RefusalTest of(int promise, String name, boolean asks, Call call, int[]... domains) {
    this.promise = promise;
    this.name = name;
    this.asks = asks;
    this.call = call;
    this.domains = domains;
    refusals = new ArrayList<>();
    rules = new ArrayList<>();
    return this;
  }

  private RefusalTest no(int refusal, Fits fits) {
    refusals.add(refusal);
    rules.add(fits);
    return this;
  }

  private void run() {
    tested.add(promise);
    checks.holds("promise " + promise + " is of " + name, document.says(promise, name + "("));
    checks.holds(name + " refuses " + refusals + ", the document tells "
        + document.refusals(promise), refusals.equals(document.refusals(promise)));
    hits = new int[rules.size()];
    for (int setup = PLAIN; setup <= FRESH; setup++) combine(setup, new int[domains.length], 0);
    for (int i = 0; i < hits.length; i++) {
      checks.holds(name + ": " + refusals.get(i) + " came", hits[i] > 0);
    }
  }

  private void combine(int setup, int[] a, int place) {
    if (place == a.length) {
      one(setup, a);
      return;
    }
    for (int v : domains[place]) {
      a[place] = v;
      combine(setup, a, place + 1);
    }
  }

  /** Two heirs, 20 LEFT, an image of another core, a row and letters. */
  private static CoresAreWills made(int setup) {
    if (setup == FRESH) return new CoresAreWills();
    CoresAreWills x = Told.of("hp0;hn1;b300;");
    x.image();
    x.bites(0, 14);
    int rows = setup == FULL ? 16 : 3;
    for (int i = 0; i < rows; i++) x.row(i);
    Told.letters(x, setup == FULL ? "n;".repeat(48) : "l00;he9;");
    return x;
  }

  private int due(CoresAreWills before, int[] a) {
    for (int i = 0; i < rules.size(); i++) {
      if (!rules.get(i).to(before, a)) continue;
      hits[i]++;
      return refusals.get(i);
    }
    return 0;
  }

  private long told(int refusal) {
    if (name.equals("gain")) return 1000000000L - refusal;
    if (name.equals("chance") || name.equals("mean")) return 4000000000000000000L - refusal;
    return refusal;
  }

  private void one(int setup, int[] a) {
    String what = name + Arrays.toString(a) + " of setup " + setup;
    CoresAreWills twin = made(setup);
    CoresAreWills x = made(setup);
    int due = due(twin, a);
    long got = call.on(x, a);
    int[] counted = Told.refusals(twin);
    if (due < 0) {
      checks.due(what, got, told(due));
      counted[-due - 1]++;
    } else {
      boolean inRange = name.equals("gain") ? Math.abs(got) < 100 : got >= 0 || got == -9;
      checks.holds(what + " is not refused: " + got, inRange && got < 4000000000000000000L);
    }
    checks.holds(what + " counts what it refused", Arrays.equals(Told.refusals(x), counted));
    if (due == 0 && !asks) return;
    String inside = Told.inside(x);
    checks.holds(what + " changes nothing: " + inside, inside.equals(Told.inside(twin)));
  }

  private static boolean off(int v, int most) {
    return v < 0 || v > most;
  }

  private static boolean left(CoresAreWills x, int cell) {
    return (x.count(2) >> cell) % 2 == 1;
  }

  private static boolean nobody(CoresAreWills x, int heir) {
    return off(heir, x.count(0) - 1);
  }

  private static boolean notTwo(CoresAreWills x, int[] a) {
    return nobody(x, a[0]) || nobody(x, a[1]) || a[0] == a[1];
  }

  private static boolean bites(CoresAreWills x, int shape, int cell) {
    boolean wide = shape == 1 || shape == 3;
    boolean high = shape == 2 || shape == 3;
    if (wide && cell % 5 == 4 || high && cell / 5 == 4) return false;
    if (!left(x, cell) || wide && !left(x, cell + 1)) return false;
    return (!high || left(x, cell + 5)) && (!wide || !high || left(x, cell + 6));
  }

  private static int[] upTo(int most) {
    int[] domain = new int[most + 5];
    for (int i = 0; i <= most + 2; i++) domain[i] = i - 1;
    domain[most + 3] = MIN;
    domain[most + 4] = MAX;
    return domain;
  }

  // ---- the promises

  private void core() {
    of(2, "letter", false, (x, a) -> x.letter(a[0]), new int[] {MIN, -1, 0, 59, 255, 256, MAX})
        .no(-4, (x, a) -> a[0] < 0).no(-6, (x, a) -> a[0] > 255 || x.count(7) == 96).run();
    of(4, "cell", true, (x, a) -> x.cell(a[0], a[1]), CELL, upTo(2))
        .no(-1, (x, a) -> off(a[0], 24)).no(-2, (x, a) -> off(a[1], 2)).run();
    of(5, "heir", true, (x, a) -> x.heir(a[0], a[1]), HEIR, upTo(2))
        .no(-1, (x, a) -> nobody(x, a[0])).no(-2, (x, a) -> off(a[1], 2)).run();
    of(6, "bites", false, (x, a) -> x.bites(a[0], a[1]), SHAPE, upTo(24))
        .no(-2, (x, a) -> off(a[0], 3)).no(-1, (x, a) -> off(a[1], 24))
        .no(-3, (x, a) -> !bites(x, a[0], a[1])).run();
    of(7, "heals", false, (x, a) -> x.heals(a[0]), upTo(24))
        .no(-1, (x, a) -> off(a[0], 24)).no(-3, (x, a) -> left(x, a[0])).run();
    of(8, "rolls", false, (x, a) -> x.rolls(a[0]), upTo(3))
        .no(-4, (x, a) -> a[0] < 1).no(-6, (x, a) -> a[0] > 3).run();
    of(9, "turn", false, (x, a) -> x.turn(a[0], a[1], a[2]), HEIR, KIND, FIGURE)
        .no(-1, (x, a) -> nobody(x, a[0])).no(-2, (x, a) -> off(a[1], 5))
        .no(-4, (x, a) -> a[2] < 0).no(-6, (x, a) -> a[2] > 9).run();
    of(25, "join", true, (x, a) -> x.join(a[0]), upTo(24))
        .no(-1, (x, a) -> off(a[0], 24)).no(-3, (x, a) -> left(x, a[0])).run();
    of(36, "on", false, (x, a) -> x.on()).no(-3, (x, a) -> x.count(1) == 0).run();
  }

  private void shares() {
    of(11, "shares", true, (x, a) -> x.shares(a[0]), upTo(1)).no(-2, (x, a) -> off(a[0], 1)).run();
    of(12, "pieces", true, (x, a) -> x.pieces(a[0]), upTo(3)).no(-2, (x, a) -> off(a[0], 3)).run();
    of(13, "edge", true, (x, a) -> x.edge(a[0]), upTo(1)).no(-2, (x, a) -> off(a[0], 1)).run();
    of(18, "can", true, (x, a) -> x.can(a[0]), new int[] {MIN, -2, -1, 0, 1, 2, 3, 4, MAX})
        .no(-2, (x, a) -> a[0] < -1 || a[0] > 3).run();
    of(19, "ways", true, (x, a) -> x.ways(a[0]), upTo(1)).no(-2, (x, a) -> off(a[0], 1)).run();
    of(20, "alike", true, (x, a) -> x.alike(a[0]), upTo(1)).no(-2, (x, a) -> off(a[0], 1)).run();
    of(21, "settles", true, (x, a) -> x.settles(a[0]), upTo(1))
        .no(-2, (x, a) -> off(a[0], 1)).run();
    of(22, "pips", true, (x, a) -> x.pips(a[0]), upTo(1)).no(-2, (x, a) -> off(a[0], 1)).run();
    of(26, "bridge", true, (x, a) -> x.bridge(a[0]), upTo(2)).no(-2, (x, a) -> off(a[0], 2)).run();
  }

  private void bitesWeighed() {
    of(14, "best", true, (x, a) -> x.best(a[0], a[1]), HEIR, upTo(1))
        .no(-1, (x, a) -> nobody(x, a[0])).no(-2, (x, a) -> off(a[1], 1)).run();
    of(15, "worst", true, (x, a) -> x.worst(a[0], a[1]), HEIR, upTo(1))
        .no(-1, (x, a) -> nobody(x, a[0])).no(-2, (x, a) -> off(a[1], 1)).run();
    of(16, "fewest", true, (x, a) -> x.fewest(a[0], a[1], a[2]), HEIR, SHARE, upTo(1))
        .no(-1, (x, a) -> nobody(x, a[0])).no(-4, (x, a) -> a[1] < 0)
        .no(-6, (x, a) -> a[1] > 40).no(-2, (x, a) -> off(a[2], 1)).run();
    of(23, "grudge", true, (x, a) -> x.grudge(a[0]), HEIR).no(-1, (x, a) -> nobody(x, a[0])).run();
    of(24, "gain", true, (x, a) -> x.gain(a[0], a[1]), HEIR, HEIR)
        .no(-1, RefusalTest::notTwo).run();
    of(27, "two", true, (x, a) -> x.two(a[0], a[1]), HEIR, HEIR)
        .no(-1, RefusalTest::notTwo).run();
  }

  private void odds() {
    of(28, "chance", true, (x, a) -> x.chance(a[0], a[1], a[2], a[3]), HEIR, upTo(2), SHARE, upTo(1))
        .no(-1, (x, a) -> nobody(x, a[0])).no(-4, (x, a) -> a[1] < 0 || a[2] < 0)
        .no(-6, (x, a) -> a[1] > 2 || a[2] > 40).no(-2, (x, a) -> off(a[3], 1)).run();
    of(29, "mean", true, (x, a) -> x.mean(a[0]), upTo(1)).no(-2, (x, a) -> off(a[0], 1)).run();
    of(30, "whatIs", true, (x, a) -> x.whatIs(a[0], a[1]), HEIR, upTo(1))
        .no(-1, (x, a) -> nobody(x, a[0])).no(-2, (x, a) -> off(a[1], 1)).run();
    of(31, "row", false, (x, a) -> x.row(a[0]), new int[] {MIN, -1, 0, 50, 99, 100, MAX})
        .no(-4, (x, a) -> a[0] < 0).no(-6, (x, a) -> a[0] > 99 || x.count(6) == 16).run();
    of(34, "lots", true, (x, a) -> x.lots(a[0], a[1], a[2]),
        new int[] {MIN, -1, 0, 1, 20, 21, MAX}, new int[] {MIN, 0, MAX}, upTo(1))
        .no(-4, (x, a) -> a[0] < 1).no(-6, (x, a) -> a[0] > 20)
        .no(-2, (x, a) -> off(a[2], 1)).run();
  }

  private void notRefused() {
    of(10, "anew", false, (x, a) -> x.anew()).run();
    of(17, "safe", true, (x, a) -> x.safe()).run();
    of(32, "judge", false, (x, a) -> x.judge()).run();
    of(33, "clear", false, (x, a) -> x.clear()).run();
    of(35, "image", false, (x, a) -> x.image()).run();
    int[] what = new int[] {MIN, -11, -1, 0, 1, 2, 3, 4, 5, 6, 7, 8, 10, 11, 16, 17, MAX};
    for (int setup = PLAIN; setup <= FRESH; setup++) {
      for (int v : what) countAsks(setup, v);
    }
  }

  /** Promise 37 speaks of refusals without refusing. */
  private void countAsks(int setup, int what) {
    CoresAreWills x = made(setup);
    x.count(what);
    checks.holds("count(" + what + ") refuses nothing",
        Arrays.equals(Told.refusals(x), Told.refusals(made(setup))));
    checks.holds("count(" + what + ") changes nothing",
        Told.inside(x).equals(Told.inside(made(setup))));
  }

  private void allPromises() {
    // 1 is the constructor, 3 tells faults, which are no refusals, 37 counts.
    for (int promise = 1; promise <= Document.PROMISES; promise++) {
      boolean apart = promise == 1 || promise == 3 || promise == 37;
      checks.holds("promise " + promise + " is tested", apart != tested.contains(promise));
    }
  }
}
