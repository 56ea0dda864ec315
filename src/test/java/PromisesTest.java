/** Each promise by calls whose answers were worked out by hand from the document. */
public final class PromisesTest {
  private static final int WHOLE = Told.WHOLE;
  private static final long L = 4000000000000000000L;
  private static final int MIN = Told.MIN;
  private static final int MAX = Told.MAX;
  private static final String HALVES = Told.HALVES;
  private static final int HALVES_LEFT = Told.HALVES_LEFT;
  private static final String SHELF = Told.SHELF;
  private static final String CUT = Told.CUT;
  private static final String EATEN = Told.EATEN;

  private final Checks checks = new Checks("PromisesTest");

  public static void main(String[] args) {
    PromisesTest test = new PromisesTest();
    test.told();
    test.bitten();
    test.had();
    test.counted();
    test.weighed();
    test.judged();
    test.kept();
    test.checks.ends();
  }

  private void told() {
    promise1();
    promise2();
    promise3Forms();
    promise3Faults();
    promise3Statements();
  }

  private void bitten() {
    promise4();
    promise5();
    promise6();
    promise7();
    promise8();
    promise9();
    promise10();
  }

  private void had() {
    promise11();
    promise12();
    promise13();
    promise14();
    promise15();
    promise16();
    promise17();
  }

  private void counted() {
    promise18();
    promise19();
    promise20();
    promise21();
    promise22();
  }

  private void weighed() {
    promise23();
    promise24();
    promise25();
    promise26();
    promise27();
    promise28();
    promise29();
  }

  private void judged() {
    promise30();
    promise31();
    promise32();
    promise33();
    promise34();
  }

  private void kept() {
    promise35();
    promise36();
    promise37();
  }

  private void due(String what, long got, long want) {
    checks.due(what, got, want);
  }

  private static int tell(CoresAreWills x, String text) {
    return Told.tell(x, text);
  }

  private static CoresAreWills of(String text) {
    return Told.of(text);
  }

  /** No HEIRS, all LEFT, no refusals but these many of -1, -2, -3, -4, -5, -6. */
  private void refusals(String what, CoresAreWills x, int... due) {
    for (int i = 0; i < 6; i++) due(what + ": refusals of -" + (i + 1), x.count(11 + i), due[i]);
  }

  private void promise1() {
    CoresAreWills x = new CoresAreWills();
    int[] due = {0, 0, WHOLE, 25, 0, 0, 0, 0};
    for (int what = 0; what < 8; what++) due("new: count(" + what + ")", x.count(what), due[what]);
    refusals("new", x, 0, 0, 0, 0, 0, 0);
    for (int cell = 0; cell < 25; cell++) due("new: cell " + cell, x.cell(cell, 0), 1);
    due("new: heir(0, 0)", x.heir(0, 0), -1);
    due("new: on()", x.on(), -3);
    due("new: core()", x.core(), -1000);
  }

  private void promise2() {
    CoresAreWills x = new CoresAreWills();
    due("letter(-1)", x.letter(-1), -4);
    due("letter(MIN)", x.letter(MIN), -4);
    due("letter(256)", x.letter(256), -6);
    due("letter(MAX)", x.letter(MAX), -6);
    due("letter(0)", x.letter(0), 1);
    due("letter(255)", x.letter(255), 2);
    for (int i = 3; i <= 96; i++) due("letter " + i, x.letter(';'), i);
    due("letter 97", x.letter(';'), -6);
    due("letter 97 below", x.letter(-1), -4);
    due("letters", x.count(7), 96);
    refusals("letter", x, 0, 0, 0, 3, 0, 3);
    due("core of junk", x.core(), -1000);
    due("letters behind", x.count(7), 0);
    due("letter again", x.letter('n'), 1);
  }

  private void fault(String text, int due) {
    CoresAreWills x = new CoresAreWills();
    due("core of \"" + text + "\"", tell(x, text), due);
    due("letters behind \"" + text + "\"", x.count(7), 0);
    refusals("behind \"" + text + "\"", x, 0, 0, 0, 0, 0, 0);
    if (due >= 0) return;
    due("heirs behind \"" + text + "\"", x.count(0), 0);
    due("cells behind \"" + text + "\"", x.count(2), WHOLE);
    due("bites behind \"" + text + "\"", x.count(1), 0);
  }

  private void promise3Forms() {
    String[] whole = {"hn5;", "b000;", "l00;", "r1;", "n;"};
    for (String statement : whole) {
      fault(statement, 1);
      fault("n;" + statement, 2);
      // What lacks is told by the end, a letter too many by its place.
      for (int end = 0; end < statement.length(); end++) {
        fault(statement.substring(0, end), -1000 - end);
        fault("n;" + statement.substring(0, end), end == 0 ? 1 : -1002 - end);
        fault(statement.substring(0, end) + "?" + statement.substring(end), -1000 - end);
        fault(statement.substring(0, end) + (char) 255, -1000 - end);
      }
      fault(statement + ";", -1000 - statement.length());
    }
    for (char kind : "newlpk".toCharArray()) fault("h" + kind + "0;", 1);
    for (char kind : "NEWLPKhbr09;amoqv".toCharArray()) fault("h" + kind + "0;", -1001);
    for (char digit : "0123456789".toCharArray()) fault("hn" + digit + ";", 1);
    for (char sign : "/:n;".toCharArray()) {
      fault("hn" + sign + ";", -1002);
      fault("b" + sign + "00;", -1001);
      fault("b0" + sign + "0;", -1002);
      fault("b00" + sign + ";", -1003);
      fault("l" + sign + "0;", -1001);
      fault("l0" + sign + ";", -1002);
      fault("r" + sign + ";", -1001);
    }
    fault("x", -1000);
    fault("N;", -1000);
    fault(";", -1000);
    fault("b900;x", -1005);
    fault("b900;n", -1006);
  }

  private void promise3Faults() {
    String[] wrong = {
      "b400;", "b900;", "b025;", "b099;", "b104;", "b124;", "b220;", "b224;", "b304;", "b320;",
      "l25;", "l99;", "r0;", "r4;", "r9;"
    };
    for (String statement : wrong) {
      fault(statement, -2000);
      fault("n;" + statement, -2002);
      fault("n;" + statement + "b900;", -2002);
    }
    fault("b000;b000;", -2005);
    fault("b300;b101;", -2005);
    fault("b300;b202;b111;b106;", -2015);
    fault("b000;r1;b004;", -2008);
    fault("b000;r1;b000;", 3);
    fault("b000;l00;b000;", 3);
    fault("b000;n;b000;", 3);
    fault("hn0;hn0;hn0;hn0;hn0;n;hn0;", -2022);
    fault("hn0;hn0;hn0;hn0;hn0;hn0;b900;", -2020);
    fault("b900;hn0;hn0;hn0;hn0;hn0;hn0;", -2000);
    CoresAreWills x = of("hn0;hn1;hn2;hn3;hn4;b000;");
    due("a sixth heir", tell(x, "b001;hn5;"), -2005);
    due("bites behind a fault", x.count(1), 1);
    due("cells behind a fault", x.count(2), WHOLE - 1);
    due("heirs behind a fault", x.count(0), 5);
    due("a bite that was done before", tell(x, "b000;"), -2000);
  }

  private void promise3Statements() {
    CoresAreWills x = of("hk9;hp0;b300;b012;l06;");
    due("heirs", x.count(0), 2);
    due("kind", x.heir(0, 0), 5);
    due("figure", x.heir(0, 1), 9);
    due("kind", x.heir(1, 0), 4);
    due("bites", x.count(1), 2);
    due("cells", x.count(2), WHOLE - 1 - 2 - 32 - 4096);
    due("l of a cell left", tell(x, "l06;l24;"), 2);
    due("cells", x.count(2), WHOLE - 1 - 2 - 32 - 4096);
    due("r2", tell(x, "r2;"), 1);
    due("cells turned", x.count(2), WHOLE - (1 << 24) - (1 << 23) - (1 << 19) - 4096);
    due("n", tell(x, "n;"), 1);
    due("bites", x.count(1), 0);
    due("cells", x.count(2), WHOLE);
    due("heirs stay", x.count(0), 2);
    for (int i = 0; i < 48; i++) {
      x.letter('n');
      x.letter(';');
    }
    due("a full text", x.core(), 48);
  }

  private void promise4() {
    CoresAreWills x = of(SHELF + "b002;");
    due("cell left", x.cell(0, 0), 1);
    due("cell bitten", x.cell(15, 0), 0);
    due("beside a corner", x.cell(0, 1), 2);
    due("beside 12", x.cell(12, 1), 3);
    due("beside 7", x.cell(7, 1), 3);
    due("beside 17, bitten", x.cell(17, 1), 2);
    due("beside 4", x.cell(4, 1), 2);
    due("beside 5", x.cell(5, 1), 3);
    due("beside 20", x.cell(20, 1), 1);
    due("piece of 0", x.cell(0, 2), 14);
    due("piece of 14", x.cell(14, 2), 14);
    due("piece of 24", x.cell(24, 2), 5);
    due("piece of none", x.cell(16, 2), 0);
    for (int cell : new int[] {-1, 25, MIN, MAX}) due("cell " + cell, x.cell(cell, 9), -1);
    for (int what : new int[] {-1, 3, MIN, MAX}) due("cell what " + what, x.cell(0, what), -2);
    refusals("cell", x, 4, 4, 0, 0, 0, 0);
  }

  private void shares(String core, String heirs, int... due) {
    CoresAreWills x = of(heirs + core);
    for (int heir = 0; heir < due.length; heir++) {
      due("share of heir " + heir + " of " + heirs + core, x.heir(heir, 2), due[heir]);
    }
  }

  private void promise5() {
    CoresAreWills x = of("hn1;he2;hw3;hl4;hp5;");
    for (int heir = 0; heir < 5; heir++) {
      due("kind of " + heir, x.heir(heir, 0), heir);
      due("figure of " + heir, x.heir(heir, 1), heir + 1);
    }
    for (int heir : new int[] {-1, 5, MIN, MAX}) due("heir " + heir, x.heir(heir, 9), -1);
    for (int what : new int[] {-1, 3, MIN, MAX}) due("heir what " + what, x.heir(0, what), -2);
    refusals("heir", x, 4, 4, 0, 0, 0, 0);
    shares(SHELF, "hn0;he0;hw0;hl4;hp2;", 3, 8, 7, 2, 3);
    shares(SHELF, "hk0;hn7;hp9;hp5;hp4;", 8, 3, 0, 0, 1);
    shares(CUT, "hn2;he2;hw2;hl2;hk2;", 3, 3, 7, 1, 8);
    shares(CUT, "hn1;he6;hn3;hn0;hl9;", 4, 4, 4, 5, 1);
    shares(HALVES, "hn0;he0;hw0;hl7;hp0;", 0, 0, 0, 7, 0);
    shares(HALVES, "hk0;hl0;hl9;", 0, 0, 9);
    shares(EATEN, "hn0;hl3;hp0;hk0;he2;", 0, 3, 0, 0, 0);
    // Pips count where they stay: 11 is bitten and comes to 17; 7 is bitten and comes to 13.
    shares("r1;b011;r3;", "hw0;hn1;hn2;", 8, 5, 4);
    shares("b007;r1;", "hw0;hn1;hn3;", 6, 5, 4);
  }

  private void promise6() {
    CoresAreWills x = new CoresAreWills();
    due("bites(1, 3)", x.bites(1, 3), 23);
    due("cells", x.count(2), WHOLE - 8 - 16);
    due("bites(2, 0)", x.bites(2, 0), 21);
    due("cells", x.count(2), WHOLE - 8 - 16 - 1 - 32);
    due("bites(3, 18)", x.bites(3, 18), 17);
    due("cells", x.count(2), WHOLE - 57 - (1 << 18) - (1 << 19) - (1 << 23) - (1 << 24));
    due("bites(0, 12)", x.bites(0, 12), 16);
    due("BITES", x.count(1), 4);
    due("bitten by the first cell", x.bites(0, 3), -3);
    due("bitten by the right one", x.bites(1, 2), -3);
    due("bitten by the lower one", x.bites(2, 7), -3);
    due("bitten by the last one", x.bites(3, 6), -3);
    due("beyond the right", x.bites(1, 9), -3);
    due("beyond the bottom", x.bites(2, 20), -3);
    due("beyond both", x.bites(3, 9), -3);
    due("no shape", x.bites(4, 99), -2);
    due("no shape", x.bites(-1, -1), -2);
    due("no shape", x.bites(MIN, 0), -2);
    due("no shape", x.bites(MAX, 0), -2);
    due("no cell", x.bites(0, 25), -1);
    due("no cell", x.bites(3, -1), -1);
    due("no cell", x.bites(3, MIN), -1);
    due("no cell", x.bites(3, MAX), -1);
    due("BITES", x.count(1), 4);
    refusals("bites", x, 4, 4, 7, 0, 0, 0);
  }

  private void promise7() {
    CoresAreWills x = of("b300;");
    due("heals(6)", x.heals(6), 22);
    due("heals(0)", x.heals(0), 23);
    due("cells", x.count(2), WHOLE - 2 - 32);
    due("BITES stay", x.count(1), 1);
    due("left", x.heals(0), -3);
    due("left", x.heals(24), -3);
    for (int cell : new int[] {-1, 25, MIN, MAX}) due("heals " + cell, x.heals(cell), -1);
    refusals("heals", x, 4, 0, 2, 0, 0, 0);
  }

  private void promise8() {
    CoresAreWills x = of("b001;");
    due("rolls(1)", x.rolls(1), 24);
    due("a quarter", x.count(2), WHOLE - (1 << 9));
    due("rolls(2)", x.rolls(2), 24);
    due("a half more", x.count(2), WHOLE - (1 << 15));
    due("rolls(3)", x.rolls(3), 24);
    due("three quarters more", x.count(2), WHOLE - (1 << 23));
    due("BITES stay", x.count(1), 1);
    due("rolls(0)", x.rolls(0), -4);
    due("rolls(MIN)", x.rolls(MIN), -4);
    due("rolls(4)", x.rolls(4), -6);
    due("rolls(MAX)", x.rolls(MAX), -6);
    refusals("rolls", x, 0, 0, 0, 2, 0, 2);
  }

  private void promise9() {
    CoresAreWills x = of("hl7;hn0;");
    due("turn(0, 5, 0)", x.turn(0, 5, 0), 37);
    due("turn(0, 0, 9)", x.turn(0, 0, 9), 50);
    due("turn(1, 4, 3)", x.turn(1, 4, 3), 0);
    due("kind", x.heir(0, 0), 0);
    due("figure", x.heir(0, 1), 9);
    due("kind of the other", x.heir(1, 0), 4);
    due("nobody", x.turn(2, 9, 99), -1);
    due("nobody", x.turn(-1, 9, 99), -1);
    due("no kind", x.turn(0, 6, -1), -2);
    due("no kind", x.turn(0, -1, 10), -2);
    due("below", x.turn(0, 0, -1), -4);
    due("below", x.turn(0, 0, MIN), -4);
    due("above", x.turn(0, 0, 10), -6);
    due("above", x.turn(0, 0, MAX), -6);
    due("nothing turned", x.heir(0, 1), 9);
    refusals("turn", x, 2, 2, 0, 2, 0, 2);
  }

  private void promise10() {
    CoresAreWills x = of("hn0;" + EATEN);
    due("anew()", x.anew(), 9);
    due("cells", x.count(2), WHOLE);
    due("BITES", x.count(1), 0);
    due("heirs", x.count(0), 1);
    due("anew()", x.anew(), 0);
  }

  private void promise11() {
    CoresAreWills x = new CoresAreWills();
    due("shares of nobody", x.shares(0), 0);
    due("richest of nobody", x.shares(1), -9);
    x = of("hn0;he0;hw0;hl4;hk0;" + SHELF);
    due("shares", x.shares(0), 3 + 8 + 7 + 2 + 8);
    due("richest, the least of several", x.shares(1), 1);
    x = of("hn0;hp0;hk3;");
    due("richest, the last", x.shares(1), 2);
    x = of("hn0;hn0;" + EATEN);
    due("richest of nothing", x.shares(1), 0);
    for (int what : new int[] {-1, 2, MIN, MAX}) due("shares " + what, x.shares(what), -2);
    refusals("shares", x, 0, 4, 0, 0, 0, 0);
  }

  private void pieces(String core, int... due) {
    CoresAreWills x = of(core);
    for (int what = 0; what < 4; what++) {
      due("pieces(" + what + ") of " + core, x.pieces(what), due[what]);
    }
  }

  private void promise12() {
    pieces("n;", 1, 25, 0, 25);
    pieces(SHELF, 2, 5, 0, 15);
    pieces("r2;" + SHELF + "r2;", 2, 5, 10, 15);
    pieces(CUT, 2, 1, 0, 21);
    pieces(HALVES, 2, 10, -9, -9);
    pieces(HALVES + "b000;", 2, 9, 15, 10);
    pieces(EATEN, 0, 0, -9, -9);
    pieces(EATEN + "l24;", 1, 1, 24, 1);
    // Two of one cell and one of two, the most in the end: not in chancery.
    pieces(EATEN + "l00;l02;l19;l24;", 3, 1, 19, 2);
    // Cells at a corner of one another do not hang together, nor do those across a border.
    pieces(EATEN + "l00;l06;", 2, 1, -9, -9);
    pieces(EATEN + "l04;l05;", 2, 1, -9, -9);
    CoresAreWills x = new CoresAreWills();
    for (int what : new int[] {-1, 4, MIN, MAX}) due("pieces " + what, x.pieces(what), -2);
    refusals("pieces", x, 0, 4, 0, 0, 0, 0);
  }

  private void edges(String core, int edge, int holes) {
    CoresAreWills x = of(core);
    due("edge(0) of " + core, x.edge(0), edge);
    due("edge(1) of " + core, x.edge(1), holes);
  }

  private void promise13() {
    edges("n;", 20, 0);
    edges("b000;", 20, 0);
    edges("b002;", 22, 0);
    edges("b012;", 24, 1);
    edges("b006;b012;", 28, 2);
    edges("b306;", 28, 1);
    edges("b306;b018;", 32, 2);
    edges("b111;b013;b014;", 28, 0);
    edges("b006;b018;b008;b016;", 36, 4);
    edges(EATEN, 0, 0);
    edges(EATEN + "l12;", 4, 0);
    // A ring with its middle bitten and a way out of it at a corner only.
    edges("b000;b006;", 24, 1);
    CoresAreWills x = new CoresAreWills();
    for (int what : new int[] {-1, 2, MIN, MAX}) due("edge " + what, x.edge(what), -2);
    refusals("edge", x, 0, 4, 0, 0, 0, 0);
  }

  private void best(String core, int bite, int share) {
    CoresAreWills x = of(core);
    due("best(0, 0) of " + core, x.best(0, 0), bite);
    due("best(0, 1) of " + core, x.best(0, 1), share);
  }

  private void refusesHeirAndWhat(String name, CoresAreWills x) {
    for (int heir : new int[] {-1, 5, MIN, MAX}) {
      due("best " + heir, x.best(heir, 9), -1);
      due("worst " + heir, x.worst(heir, 9), -1);
      due("whatIs " + heir, x.whatIs(heir, 9), -1);
    }
    for (int what : new int[] {-1, 2, MIN, MAX}) {
      due("best what " + what, x.best(0, what), -2);
      due("worst what " + what, x.worst(0, what), -2);
      due("whatIs what " + what, x.whatIs(0, what), -2);
    }
    refusals(name, x, 12, 12, 0, 0, 0, 0);
  }

  private void promise14() {
    best("hn2;", -9, -9);
    best("hp3;", 300, 1);
    best("hp4;", -9, -9);
    best("hp0;b000;", 301, 5);
    best("hn0;" + HALVES, 0, 2);
    best("hl0;" + HALVES, 15, 2);
    best("hl9;" + HALVES, -9, -9);
    best("hn0;" + EATEN, -9, -9);
    // A kitchen gains a piece: the corner of the deed is cut off by a domino across it.
    best("hk4;b001;", 5, 9);
    CoresAreWills x = of("hn0;hn0;hn0;hn0;hp0;");
    due("best of the last", x.best(4, 0), 300);
    refusesHeirAndWhat("best", x);
    due("nothing bitten", x.count(2), WHOLE);
    due("no BITES", x.count(1), 0);
  }

  private void worst(String core, int bite, int share) {
    CoresAreWills x = of(core);
    due("worst(0, 0) of " + core, x.worst(0, 0), bite);
    due("worst(0, 1) of " + core, x.worst(0, 1), share);
  }

  private void promise15() {
    worst("hn2;", 202, 3);
    worst("he0;", 2, 5);
    worst("hp0;", -9, -9);
    worst("hl9;" + HALVES, 0, 0);
    worst("hn0;" + HALVES, -9, -9);
    worst("hn0;" + EATEN, -9, -9);
    worst("hw1;", 306, 3);
    CoresAreWills x = of("hp0;hp0;hp0;hp0;hn4;");
    due("worst of the last", x.worst(4, 0), 204);
    due("nothing bitten", x.count(2), WHOLE);
  }

  private void fewest(String core, int v, int many, int first) {
    CoresAreWills x = of(core);
    due("fewest(0, " + v + ", 0) of " + core, x.fewest(0, v, 0), many);
    due("fewest(0, " + v + ", 1) of " + core, x.fewest(0, v, 1), first);
  }

  private void promise16() {
    fewest("hp0;", 0, 0, -9);
    fewest("hp0;", 1, 1, 0);
    fewest("hp0;", 2, 1, 100);
    fewest("hp0;", 3, 1, 300);
    fewest("hp0;", 4, 1, 300);
    fewest("hp0;", 5, 2, 0);
    fewest("hp0;", 6, 2, 100);
    fewest("hp0;", 7, 2, 300);
    fewest("hp0;", 8, 2, 300);
    fewest("hp0;", 9, -9, -9);
    fewest("hn0;", 5, 0, -9);
    fewest("hn0;", 40, -9, -9);
    fewest("hp0;" + EATEN, 0, 0, -9);
    fewest("hp0;" + EATEN, 1, -9, -9);
    fewest("hn0;" + HALVES, 2, 1, 0);
    // Only 13 is of column 3: both of the others are to go, 4 and right behind it 5.
    fewest("hn3;" + EATEN + "l04;l05;l13;", 1, 2, 4);
    fewest("hn4;" + EATEN + "l04;l05;l13;", 1, 2, 5);
    fewest("hn0;" + EATEN + "l04;l05;l13;", 1, 2, 4);
    CoresAreWills x = of("hn0;");
    due("nobody", x.fewest(1, -1, 9), -1);
    due("nobody", x.fewest(-1, 41, 9), -1);
    due("below", x.fewest(0, -1, 9), -4);
    due("below", x.fewest(0, MIN, 9), -4);
    due("above", x.fewest(0, 41, 9), -6);
    due("above", x.fewest(0, MAX, 9), -6);
    due("what", x.fewest(0, 40, 2), -2);
    due("what", x.fewest(0, 0, -1), -2);
    refusals("fewest", x, 2, 2, 0, 2, 0, 2);
  }

  private void promise17() {
    due("safe with nobody", of("n;").safe(), 81);
    due("safe for n2", of("hn2;").safe(), 54);
    due("safe for n2 and p0", of("hn2;hp0;").safe(), 0);
    due("safe for n2 and p4", of("hn2;hp4;").safe(), 54);
    due("safe for n0 and n4", of("hn0;hn4;").safe(), 15 + 10 + 12 + 8);
    due("safe of nothing", of("hn0;" + EATEN).safe(), 0);
  }

  private void can(String core, int all, int... due) {
    CoresAreWills x = of(core);
    due("can(-1) of " + core, x.can(-1), all);
    for (int shape = 0; shape < 4; shape++) due("can " + shape + " of " + core, x.can(shape), due[shape]);
  }

  private void promise18() {
    can("n;", 81, 25, 20, 20, 16);
    can("b000;", 24 + 19 + 19 + 15, 24, 19, 19, 15);
    can("b012;", 24 + 18 + 18 + 12, 24, 18, 18, 12);
    can(HALVES, 54, 20, 16, 10, 8);
    can(EATEN, 0, 0, 0, 0, 0);
    can(EATEN + "l23;l24;", 3, 2, 1, 0, 0);
    CoresAreWills x = new CoresAreWills();
    for (int shape : new int[] {-2, 4, MIN, MAX}) due("can " + shape, x.can(shape), -2);
    refusals("can", x, 0, 4, 0, 0, 0, 0);
  }

  private void ways(String core, int ways, int few) {
    CoresAreWills x = of(core);
    due("ways(0) of " + core, x.ways(0), ways);
    due("ways(1) of " + core, x.ways(1), few);
  }

  private void promise19() {
    ways("n;", 1, 0);
    ways("b000;", 1, 1);
    ways("b000;b001;", 2, 1);
    ways("b000;b005;", 2, 1);
    ways("b000;b006;", 1, 2);
    ways("b300;", 8, 1);
    ways("b300;b318;", 64, 2);
    ways("b004;b005;", 1, 2);
    ways(HALVES, 8, 3);
    // Two rows of three: 22 ways without squares of four, and by one such 2 times 2.
    ways("b300;b202;", 26, 2);
    ways(EATEN, 5684228 % 1000003, 9);
    CoresAreWills x = new CoresAreWills();
    for (int what : new int[] {-1, 2, MIN, MAX}) due("ways " + what, x.ways(what), -2);
    refusals("ways", x, 0, 4, 0, 0, 0, 0);
  }

  private void alike(String core, int many, int least) {
    CoresAreWills x = of(core);
    due("alike(0) of " + core, x.alike(0), many);
    due("alike(1) of " + core, x.alike(1), least);
  }

  private void promise20() {
    alike("n;", 1, WHOLE);
    alike("b012;", 1, WHOLE - 4096);
    alike("b000;", 4, 16777215);
    alike("b024;", 4, 16777215);
    alike("b020;", 4, 16777215);
    alike("b000;b024;", 2, WHOLE - 1 - (1 << 24));
    alike("b004;b020;", 2, WHOLE - 1 - (1 << 24));
    alike(HALVES, 2, 29224827);
    alike(EATEN, 1, 0);
    alike(EATEN + "l12;l13;", 4, (1 << 7) + (1 << 12));
    CoresAreWills x = new CoresAreWills();
    for (int what : new int[] {-1, 2, MIN, MAX}) due("alike " + what, x.alike(what), -2);
    refusals("alike", x, 0, 4, 0, 0, 0, 0);
  }

  private void settles(String core, int many, int cell) {
    CoresAreWills x = of(core);
    due("settles(0) of " + core, x.settles(0), many);
    due("settles(1) of " + core, x.settles(1), cell);
  }

  private void promise21() {
    settles("n;", 0, -9);
    settles(HALVES, 1, 0);
    settles(EATEN, -9, -9);
    settles(EATEN + "l09;", 0, -9);
    settles(EATEN + "l09;l11;", 1, 9);
    settles(EATEN + "l09;l11;l13;", 2, 9);
    settles(EATEN + "l09;l11;l13;l15;", -9, -9);
    settles(EATEN + "l00;l02;l04;", 2, 0);
    settles("b120;b122;b024;" + HALVES, 0, -9);
    // Three of two: one of two stays the deed only behind a bite of each other.
    settles(EATEN + "l01;l02;l10;l11;l22;l23;", 2, 1);
    CoresAreWills x = of(HALVES);
    for (int what : new int[] {-1, 2, MIN, MAX}) due("settles " + what, x.settles(what), -2);
    refusals("settles", x, 0, 4, 0, 0, 0, 0);
    due("nothing bitten", x.count(3), 20);
  }

  private void promise22() {
    int[] cells = {11, 12, 13};
    CoresAreWills x = new CoresAreWills();
    for (int i = 0; i < 3; i++) {
      due("pips", x.pips(0), 3 - i);
      x.bites(0, cells[i]);
    }
    due("no pips", x.pips(0), 0);
    due("stalk", x.pips(1), 1);
    x.bites(0, 2);
    due("no stalk", x.pips(1), 0);
    x.rolls(1);
    due("pips stay where they are", x.pips(0), 2);
    due("the stalk, too", x.pips(1), 1);
    for (int what : new int[] {-1, 2, MIN, MAX}) due("pips " + what, x.pips(what), -2);
    refusals("pips", x, 0, 4, 0, 0, 0, 0);
  }

  private void promise23() {
    CoresAreWills x = of("hn0;hp0;hn1;hp1;");
    due("grudge of a nephew, the least of several", x.grudge(0), 1);
    due("grudge of a pig", x.grudge(1), 3);
    due("grudge of the other pig", x.grudge(3), 1);
    for (int heir : new int[] {-1, 4, MIN, MAX}) due("grudge " + heir, x.grudge(heir), -1);
    refusals("grudge", x, 4, 0, 0, 0, 0, 0);
    due("nobody else", of("hp0;").grudge(0), -9);
    due("nobody else has one", of("hp0;hn0;").grudge(0), -9);
    // In chancery n0 bites 0 and leaves no stalk; the lawyer bites 15 and leaves it.
    x = of("hl0;hn0;hn0;he0;" + HALVES);
    due("grudge in chancery", x.grudge(3), 1);
    due("grudge against the first", of("hp0;hn0;").grudge(1), 0);
    due("grudge against another than the first", of("hn0;hn0;hp0;").grudge(0), 2);
  }

  private void promise24() {
    CoresAreWills x = of("hn5;hp0;hp9;");
    due("gain(1, 0)", x.gain(1, 0), -2);
    due("gain(0, 1): no best bite", x.gain(0, 1), 0);
    due("gain(1, 2): nothing more", x.gain(1, 2), 0);
    due("gain(0, 0)", x.gain(0, 0), 1000000001);
    due("gain(0, 3)", x.gain(0, 3), 1000000001);
    due("gain(3, 0)", x.gain(3, 0), 1000000001);
    due("gain(-1, 0)", x.gain(-1, 0), 1000000001);
    due("gain(0, MIN)", x.gain(0, MIN), 1000000001);
    due("gain(MAX, MAX)", x.gain(MAX, MAX), 1000000001);
    refusals("gain", x, 6, 0, 0, 0, 0, 0);
    due("gain in chancery", of("hn0;hp0;" + HALVES).gain(0, 1), 6);
    due("loss of a lawyer", of("hn0;hl9;" + HALVES).gain(0, 1), -9);
  }

  private void promise25() {
    CoresAreWills x = of(HALVES);
    for (int cell = 10; cell < 15; cell++) due("join " + cell, x.join(cell), 1);
    due("left", x.join(0), -3);
    for (int cell : new int[] {-1, 25, MIN, MAX}) due("join " + cell, x.join(cell), -1);
    refusals("join", x, 4, 0, 1, 0, 0, 0);
    due("nothing healed", x.count(3), 20);
    x = of(EATEN);
    due("the first", x.join(0), 1);
    x.heals(0);
    due("beside it", x.join(1), 1);
    due("across", x.join(6), 2);
    x.heals(2);
    x.heals(24);
    due("between two of three", x.join(1), 2);
    due("a fourth", x.join(10), 4);
  }

  private void bridge(String core, int... due) {
    CoresAreWills x = of(core);
    for (int what = 0; what < 3; what++) due("bridge(" + what + ") of " + core, x.bridge(what), due[what]);
  }

  private void promise26() {
    bridge("n;", 0, -9, 12);
    bridge(HALVES, 0, -9, 7);
    bridge(HALVES + "l12;", 3, 7, 12);
    bridge(EATEN, 0, -9, -9);
    bridge(EATEN + "l24;", 0, -9, 24);
    bridge(EATEN + "l20;l21;l22;", 1, 21, 21);
    bridge(EATEN + "l20;l21;l22;l23;", 2, 21, 21);
    bridge(EATEN + "l00;l24;", 0, -9, 0);
    bridge(EATEN + "l00;l01;l05;", 1, 0, 0);
    bridge(EATEN + "l19;l23;l24;", 1, 24, 24);
    bridge(EATEN + "l00;l04;l01;", 0, -9, 1);
    CoresAreWills x = new CoresAreWills();
    for (int what : new int[] {-1, 3, MIN, MAX}) due("bridge " + what, x.bridge(what), -2);
    refusals("bridge", x, 0, 4, 0, 0, 0, 0);
  }

  private void promise27() {
    CoresAreWills x = of("hn5;hp0;hn0;");
    // The nephew bites his corner first, so that the pig has no square of four there.
    due("two(0, 1)", x.two(0, 1), 10);
    // Whether he bites his corner or not, the pig's four are two of his column.
    due("two(0, 1) of column 1", of("hn6;hp0;").two(0, 1), 0);
    // The pig has most by 300 whatever comes; the nephew rests, for a bite of 10 costs him one.
    due("two(1, 0)", x.two(1, 0), 0);
    due("two(0, 2): both rest", x.two(0, 2), 0);
    for (int heir : new int[] {-1, 3, MIN, MAX}) {
      due("two(" + heir + ", 0)", x.two(heir, 0), -1);
      due("two(0, " + heir + ")", x.two(0, heir), -1);
    }
    due("two(1, 1)", x.two(1, 1), -1);
    refusals("two", x, 9, 0, 0, 0, 0, 0);
    due("two of nothing", of("hn5;hp0;" + EATEN).two(0, 1), 0);
    due("nothing bitten", x.count(2), WHOLE);
    // Both rest at 0 now; but a bite of one cell lets the other bite four for both.
    due("two(0, 1): the first would rather bite", of("hp6;hp6;b216;").two(0, 1), 1);
    // As above, but the other alone has more by 300 at once, so that he has more by it always.
    due("two(0, 1): the other has more by his best", of("hp6;hp0;b216;").two(0, 1), 10);
  }

  private void chance(String core, int n, int v, long above, long below) {
    CoresAreWills x = of(core);
    due("chance(0, " + n + ", " + v + ", 0) of " + core, x.chance(0, n, v, 0), above);
    due("chance(0, " + n + ", " + v + ", 1) of " + core, x.chance(0, n, v, 1), below);
  }

  private void promise28() {
    chance("hn0;", 0, 5, 1, 1);
    chance("hn0;", 0, 6, 0, 1);
    chance("hn0;", 1, 5, 4, 5);
    chance("hn0;", 2, 5, 19, 30);
    // Less than four: two of the column, or 5 and 1, or 15 and 21, which cut a corner off.
    chance("hn0;", 2, 4, (300 - 10 - 2) / 12, 25);
    chance("hn0;", 2, 3, 1, 1);
    chance("hn0;", 2, 40, 0, 1);
    chance("hp0;" + EATEN + "l00;l01;l02;", 1, 23, 2, 3);
    chance("hp0;" + EATEN + "l00;l01;l02;", 2, 24, 1, 1);
    chance("hp0;" + EATEN + "l22;l23;l24;", 1, 23, 2, 3);
    chance("hp0;" + EATEN + "l22;l23;l24;", 2, 24, 1, 1);
    chance("hp1;" + EATEN + "l20;l22;l23;l24;", 2, 22, 1, 3);
    chance("hn0;" + EATEN + "l00;l01;", 1, 1, 1, 2);
    chance("hl4;" + EATEN + "l00;", 1, 4, 1, 1);
    chance("hl4;" + EATEN + "l00;", 2, 4, 1, 1);
    chance("hl4;" + EATEN + "l00;", 0, 4, 0, 1);
    chance("hn0;" + EATEN, 2, 0, 1, 1);
    chance("hn0;" + EATEN, 2, 1, 0, 1);
    CoresAreWills x = of("hn0;");
    due("nobody", x.chance(1, -1, 99, 9), L + 1);
    due("nobody", x.chance(-1, 3, -1, 9), L + 1);
    due("below", x.chance(0, -1, 41, 9), L + 4);
    due("below", x.chance(0, 3, -1, 9), L + 4);
    due("above", x.chance(0, 3, 0, 9), L + 6);
    due("above", x.chance(0, 0, 41, 9), L + 6);
    due("part", x.chance(0, 2, 40, 2), L + 2);
    due("part", x.chance(0, 0, 0, -1), L + 2);
    refusals("chance", x, 2, 2, 0, 2, 0, 2);
  }

  private void mean(String core, long above, long below) {
    CoresAreWills x = of(core);
    due("mean(0) of " + core, x.mean(0), above);
    due("mean(1) of " + core, x.mean(1), below);
  }

  private void promise29() {
    mean("n;", 0, 1);
    mean("hn0;", 5, 1);
    mean("hp0;hp0;hp0;", 0, 1);
    mean("hn0;he0;", 15, 2);
    mean("hn0;hn0;hn0;", 5, 1);
    mean("hn0;hp0;hp0;hp0;hp0;", 1, 1);
    mean("hn0;he0;hp0;hp0;hp0;", 3, 1);
    mean("hn0;he0;hl0;hl0;", 21, 4);
    CoresAreWills x = new CoresAreWills();
    for (int part : new int[] {-1, 2, MIN, MAX}) due("mean " + part, x.mean(part), L + 2);
    refusals("mean", x, 0, 4, 0, 0, 0, 0);
  }

  private void what(String core, int[] row, int kinds, int figures) {
    CoresAreWills x = of(core);
    for (int v : row) x.row(v);
    due("whatIs(0, 0) of " + core, x.whatIs(0, 0), kinds);
    due("whatIs(0, 1) of " + core, x.whatIs(0, 1), figures);
    due("the row stays", x.count(6), row.length);
  }

  private void promise30() {
    what("hn2;", new int[] {}, 63, 1023);
    what("hn2;", new int[] {5}, 1, 1023);
    what("hw2;", new int[] {8}, 4 + 32, 1023);
    what("hn0;", new int[] {5, 4}, 1, 1 + 32);
    what("he0;", new int[] {10, 9}, 2, 1 + 32);
    what("hn0;", new int[] {5, 5}, 0, 1023 - 1 - 32);
    what("hp0;", new int[] {0, 1}, 16, 1);
    what("hp3;", new int[] {0, 0, 0}, 16, 1022);
    // A cell that is bitten changes nothing by being bitten again.
    what("hp0;b000;", new int[] {1, 1, 2}, 16, 1);
    what("hl7;" + HALVES, new int[] {7}, 8, 128);
    what("hn1;" + HALVES, new int[] {0}, 55, 1023);
    what("hn0;", new int[] {5, 4, 5, 5, 5, 5, 4, 5, 5, 5, 5, 4, 5, 5, 5, 5}, 1, 33);
    what("hn0;", new int[] {5, 4, 5, 5, 5, 5, 4, 5, 5, 5, 5, 4, 5, 5, 5, 4}, 0, 0);
  }

  private void promise31() {
    CoresAreWills x = new CoresAreWills();
    due("row(-1)", x.row(-1), -4);
    due("row(MIN)", x.row(MIN), -4);
    due("row(100)", x.row(100), -6);
    due("row(MAX)", x.row(MAX), -6);
    for (int i = 1; i <= 16; i++) due("row " + i, x.row(i % 2 == 0 ? 0 : 99), i);
    due("row 17", x.row(0), -6);
    due("row 17 below", x.row(-1), -4);
    due("in the row", x.count(6), 16);
    refusals("row", x, 0, 0, 0, 3, 0, 3);
  }

  private void judge(String core, int[] row, int due) {
    CoresAreWills x = of(core);
    for (int v : row) x.row(v);
    due("judge() of " + core, x.judge(), due);
    due("the row has none then", x.count(6), 0);
  }

  private void promise32() {
    judge("hn2;he0;", new int[] {}, -9);
    judge("hn2;he0;", new int[] {5}, -9);
    judge("hn2;he0;", new int[] {5, 10}, -9);
    judge("hn2;he0;", new int[] {4, 10}, 0);
    judge("hn2;he0;", new int[] {5, 9}, 1);
    judge("hn2;he0;", new int[] {5, 10, 0}, 2);
    judge("hn2;he0;", new int[] {5, 11, 0}, 1);
    judge("n;", new int[] {0}, 0);
    judge("n;", new int[] {5}, 0);
    judge("hn2;hn2;hn2;hn2;hn2;", new int[] {5, 5, 5, 5, 5}, -9);
    judge("hn2;hn2;hn2;hn2;hn2;", new int[] {5, 5, 5, 5, 5, 5}, 5);
  }

  private void promise33() {
    CoresAreWills x = new CoresAreWills();
    due("clear()", x.clear(), 0);
    x.row(1);
    x.row(2);
    due("clear()", x.clear(), 2);
    due("none then", x.count(6), 0);
    due("clear()", x.clear(), 0);
    due("row again", x.row(3), 1);
  }

  private void promise34() {
    CoresAreWills x = of("hn2;he0;hw1;hl7;hp3;");
    due("lots(5, 7, 0)", x.lots(5, 7, 0), 82);
    due("lots(5, 7, 1)", x.lots(5, 7, 1), 0);
    due("nothing bitten", x.count(2), WHOLE);
    due("no BITES", x.count(1), 0);
    x = of("hl9;" + HALVES);
    due("lots in chancery", x.lots(20, 7, 1), lotsInChancery(HALVES_LEFT, 20, 7));
    due("below", x.lots(0, 0, 9), -4);
    due("below", x.lots(MIN, 0, 9), -4);
    due("above", x.lots(21, 0, 9), -6);
    due("above", x.lots(MAX, 0, 9), -6);
    due("what", x.lots(20, 0, 2), -2);
    due("what", x.lots(1, 0, -1), -2);
    refusals("lots", x, 0, 2, 0, 2, 0, 2);
    // Nothing can be bitten: all lots are as now, whatever the seed.
    x = of("hl9;" + EATEN);
    for (int seed : new int[] {0, 1, -1, MIN, MAX}) {
      due("lots of nothing", x.lots(20, seed, 0), 180);
      due("lots of nothing", x.lots(20, seed, 1), 20);
    }
  }

  /** Bites by another object what the lots draw, and asks it each time. */
  private static int lotsInChancery(int left, int n, int z) {
    int in = 0;
    int seed = z;
    for (int i = 0; i < n; i++) {
      CoresAreWills y = new CoresAreWills();
      for (int cell = 0; cell < 25; cell++) if ((left >> cell) % 2 == 0) y.bites(0, cell);
      for (int bite = 0; bite < 6; bite++) {
        seed = seed * 1664525 + 1013904223;
        int shape = (seed & MAX) / 256 % 4;
        seed = seed * 1664525 + 1013904223;
        y.bites(shape, (seed & MAX) / 256 % 25);
      }
      in += y.count(5);
    }
    return in;
  }

  private void promise35() {
    CoresAreWills x = of("hn0;" + SHELF);
    due("image()", x.image(), 3);
    due("nothing changes", x.count(3), 20);
    x.bites(0, 0);
    due("image() anew", x.image(), 4);
    x.anew();
    due("on() from the newer one", x.on(), 4);
    due("cells", x.count(3), 19);
    due("image of no bites", new CoresAreWills().image(), 0);
  }

  private void promise36() {
    CoresAreWills x = of("hn0;" + SHELF);
    due("on() without one", x.on(), -3);
    x.image();
    x.turn(0, 5, 9);
    tell(x, "he3;r1;b000;");
    x.row(7);
    x.letter('n');
    due("on()", x.on(), 3);
    due("heirs as then", x.count(0), 1);
    due("kind as then", x.heir(0, 0), 0);
    due("figure as then", x.heir(0, 1), 0);
    due("cells as then", x.count(2), WHOLE - (31 << 15));
    due("BITES as then", x.count(1), 3);
    due("the row as now", x.count(6), 1);
    due("letters as now", x.count(7), 1);
    due("refusals as now", x.count(13), 1);
    x.bites(0, 0);
    x.turn(0, 1, 1);
    due("on() once more", x.on(), 3);
    due("cells as then", x.count(2), WHOLE - (31 << 15));
    due("kind as then", x.heir(0, 0), 0);
    refusals("on", x, 0, 0, 1, 0, 0, 0);
  }

  private void promise37() {
    CoresAreWills x = of("hl9;he0;" + HALVES);
    x.row(1);
    x.row(2);
    x.letter('x');
    int[] due = {2, 3, HALVES_LEFT, 20, 9, 1, 2, 1};
    for (int what = 0; what < 8; what++) due("count(" + what + ")", x.count(what), due[what]);
    x.bites(0, 0);
    due("all shares", x.count(4), 2);
    due("not in chancery", x.count(5), 0);
    x.cell(25, 0);
    for (int i = 0; i < 2; i++) x.cell(0, 3);
    for (int i = 0; i < 3; i++) x.heals(1);
    for (int i = 0; i < 4; i++) x.rolls(0);
    for (int i = 0; i < 5; i++) x.rolls(4);
    refusals("count", x, 1, 2, 3, 4, 0, 5);
    for (int what : new int[] {-1, 8, 9, 10, 17, 18, MIN, MAX}) due("count " + what, x.count(what), -9);
    refusals("count", x, 1, 2, 3, 4, 0, 5);
  }
}
