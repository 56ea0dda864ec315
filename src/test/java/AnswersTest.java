/** The boundary cases that the sections from "II." to THE IMAGE name, each by a test of its own. */
public final class AnswersTest extends Sentences {
  private static final int MODULUS = 1000003;

  private AnswersTest() {
    super("AnswersTest");
  }

  public static void main(String[] args) {
    AnswersTest test = new AnswersTest();
    test.shares();
    test.borders();
    test.bestBites();
    test.fewestBites();
    test.safeBites();
    test.made();
    test.settled();
    test.ofOthers();
    test.bridges();
    test.byTurns();
    test.odds();
    test.told();
    test.lots();
    test.image();
    test.numbers();
    test.ends();
  }

  // ---- II.

  private void shares() {
    says(TERMS, "RICHEST: who has most, of several the least; -9 nobody", () -> {
      due("nobody", of("", ALL).shares(1), -9);
      due("nobody, of nothing", of("", NONE).shares(1), -9);
      due("alike", of("hn0;hn1;hn2;", ALL).shares(1), 0);
      due("the last two alike", of("hp0;hn0;hn1;", ALL).shares(1), 1);
      due("the last", of("hp0;hp0;hp0;hp0;hn0;", ALL).shares(1), 4);
      due("the first", of("he0;hn0;hp0;", ALL).shares(1), 0);
      due("the middle", of("hn0;he0;hw0;", ALL).shares(1), 1);
      due("of nothing all have nothing", of("hn0;hp9;", NONE).shares(1), 0);
      due("of nothing but a lawyer", of("hn0;hl1;hl1;", NONE).shares(1), 1);
    });
    says(TERMS, "CELLS of the least one (0 none)", () -> {
      due("none", of("", NONE).pieces(1), 0);
      due("one", of("", ALL).pieces(1), 25);
      due("the first", of("", "o.... ..... ooo.. ..... ...oo").pieces(1), 1);
      due("the middle", of("", "ooo.. ..... .o... ..... ...oo").pieces(1), 1);
      due("the last", of("", "ooo.. ..... oo.oo ..... ....o").pieces(1), 1);
      due("in CHANCERY", of("", HALVES).pieces(1), 10);
    });
    says(TERMS, "THE DEED (its least CELL; -9 in CHANCERY), how many CELLS it has (-9)", () -> {
      CoresAreWills x = of("", "o...o ....o ..... o...o ....o");
      due("in CHANCERY", x.pieces(2), -9);
      due("in CHANCERY", x.pieces(3), -9);
      x.bites(0, 4);
      due("not the least CELL of all", x.pieces(2), 19);
      due("its CELLS", x.pieces(3), 2);
      due("its least CELL is not its first in a column",
          of("", "..... ...o. ooooo ..... .....").pieces(2), 8);
      due("nothing LEFT", of("", NONE).pieces(2), -9);
      due("nothing LEFT", of("", NONE).pieces(3), -9);
    });
  }

  private void borders() {
    says(TERMS, "how many sides of CELLS LEFT have none LEFT BESIDE (the border, too)", () -> {
      due("none", of("", NONE).edge(0), 0);
      due("all", of("", ALL).edge(0), 20);
      for (int cell = 0; cell < 25; cell++) {
        CoresAreWills x = of("", NONE);
        x.heals(cell);
        due("one", x.edge(0), 4);
      }
      due("no two beside", of("", "o.o.o .o.o. o.o.o .o.o. o.o.o").edge(0), 52);
      due("not across a border", of("", "....o o.... ..... ..... .....").edge(0), 8);
      due("across", of("", "oo... ..... ..... ..... .....").edge(0), 6);
      due("down", of("", "..... ..... ..... ....o ....o").edge(0), 6);
      due("inner sides", of("", "ooooo o...o o...o o...o ooooo").edge(0), 32);
    });
    says(TERMS, "heaps of CELLS not LEFT (by BESIDE) that touch no border: how many", () -> {
      for (int cell = 0; cell < 25; cell++) {
        CoresAreWills x = new CoresAreWills();
        x.bites(0, cell);
        boolean inner = cell / 5 % 4 != 0 && cell % 5 % 4 != 0;
        due("one at " + cell, x.edge(1), inner ? 1 : 0);
      }
      due("none", of("", ALL).edge(1), 0);
      due("all", of("", NONE).edge(1), 0);
      due("all inside", of("", "ooooo o...o o...o o...o ooooo").edge(1), 1);
      due("a ring", of("", "ooooo o...o o.o.o o...o ooooo").edge(1), 1);
      due("two by a corner", of("", "ooooo o.ooo oo.oo ooooo ooooo").edge(1), 2);
      due("the border by a corner", of("", ".oooo o.ooo ooooo ooooo ooooo").edge(1), 1);
      due("a way out", of("", "ooooo o...o o.o.o o...o oo.oo").edge(1), 0);
      due("four and one", of("", "ooooo o.o.o oo.oo o.o.o ooooo").edge(1), 5);
    });
  }

  // ---- BEST, WORST, FEWEST, SAFE, CAN

  private void best(String heir, String picture, int bite, int share) {
    CoresAreWills x = of(heir, picture);
    due("BEST BITE of " + heir + picture, x.best(0, 0), bite);
    due("SHARE by it", x.best(0, 1), share);
  }

  private void worst(String heir, String picture, int bite, int share) {
    CoresAreWills x = of(heir, picture);
    due("WORST of " + heir + picture, x.worst(0, 0), bite);
    due("SHARE by it", x.worst(0, 1), share);
  }

  private void bestBites() {
    // Three pieces, of three, one and one; bitten in its middle, or from 17 on, all are of one.
    String three = "..... ....o ..... ..ooo .o...";
    says(TERMS, "by which (one that CAN be) his SHARE is most", () -> {
      best("hp0;", ALL, 300, 4);
      best("hp0;", "o.ooo ooooo ooooo ooooo ooooo", 302, 5);
      best("hp0;", "oo... ..... ..... ..... ....o", 100, 24);
      best("hp0;", "o.... o.... ..... ..... ....o", 200, 24);
      best("hp0;", "oo... oo... ..... ..... ....o", 300, 24);
      best("hl5;", "..... ..... ..... ..... ....o", 24, 5);
    });
    says(TERMS, "more than now", () -> {
      best("hn2;", ALL, -9, -9);
      best("hp3;", ALL, 300, 1);
      best("hp4;", ALL, -9, -9);
      best("hl9;", HALVES, -9, -9);
      best("hl2;", HALVES, -9, -9);
      best("hl1;", HALVES, 15, 2);
    });
    says(TERMS, "of several the first (by SHAPES, then CELLS); -9; that SHARE (-9)", () -> {
      best("hl8;", three, 18, 8);
      best("hn0;", HALVES, 0, 2);
      best("he0;", HALVES, 15, 7);
      best("hn0;", NONE, -9, -9);
      best("hl9;", NONE, -9, -9);
    });
    says(TERMS, "WORST: likewise by which it is least, less than now", () -> {
      worst("he0;", ALL, 2, 5);
      worst("hn2;", ALL, 202, 3);
      worst("hn4;", ALL, 204, 3);
      worst("hp0;", ALL, -9, -9);
      worst("hl9;", HALVES, 0, 0);
      worst("hl0;", HALVES, -9, -9);
      worst("hn0;", NONE, -9, -9);
      worst("hn4;", "..... ..... ..... ..... ....o", 24, 0);
    });
  }

  private void fewest(String heir, String picture, int v, int many, int first) {
    CoresAreWills x = of(heir, picture);
    due("FEWEST to " + v + " of " + heir + picture, x.fewest(0, v, 0), many);
    due("the first one", x.fewest(0, v, 1), first);
  }

  private void fewestBites() {
    says(TERMS, "the fewest BITES (0 .. 2) behind which one has v (0 .. 40) or more; -9", () -> {
      fewest("hp0;", ALL, 0, 0, -9);
      fewest("hp0;", ALL, 1, 1, 0);
      fewest("hp0;", ALL, 3, 1, 300);
      fewest("hp0;", ALL, 4, 1, 300);
      fewest("hn0;", ALL, 4, 0, -9);
      fewest("hn4;", "o.... ....o ..... ....o .....", 1, 2, 0);
      fewest("hp0;", ALL, 5, 2, 0);
      fewest("hp0;", ALL, 8, 2, 300);
      fewest("hp0;", ALL, 9, -9, -9);
      fewest("hp0;", ALL, 40, -9, -9);
      fewest("hn0;", NONE, 0, 0, -9);
      fewest("hn0;", NONE, 1, -9, -9);
      fewest("hl7;", NONE, 7, 0, -9);
      fewest("hl7;", NONE, 8, -9, -9);
      fewest("hn4;", "..... ..... ..... ..... ....o", 1, 0, -9);
      fewest("hn4;", "..... ..... ..... ..... ....o", 2, -9, -9);
    });
    says(TERMS, "the first one of the first such (by SHAPES, then CELLS); -9 (0, too)", () -> {
      // By one, of three, one and one: 18 goes ahead of 117.
      fewest("hl8;", "..... ....o ..... ..ooo .o...", 8, 1, 18);
      // By two: 4 and 200 in either order; 4 goes ahead, 0 alone leads to nothing.
      fewest("hn9;", "o...o o.... ..... ..... ....o", 1, 2, 4);
      fewest("hn0;", HALVES, 2, 1, 0);
      fewest("hn0;", HALVES, 0, 0, -9);
      fewest("hp0;", ALL, 2, 1, 100);
      fewest("hp0;", ALL, 6, 2, 100);
    });
  }

  private void safeBites() {
    says(TERMS, "SAFE: how many BITES that CAN be change nobody's SHARE", () -> {
      due("nobody", of("", ALL).safe(), 81);
      due("nobody, of nothing", of("", NONE).safe(), 0);
      due("one of column 0", of("hn0;", ALL).safe(), 20 + 15 + 16 + 12);
      due("of both borders", of("hn0;hn4;", ALL).safe(), 15 + 10 + 12 + 8);
      due("a pig of 3", of("hp3;", ALL).safe(), 65);
      due("a pig of 4", of("hp4;", ALL).safe(), 81);
      due("the last of five", of("hp9;hp9;hp9;hp9;hp0;", ALL).safe(), 0);
      due("two lawyers, one to gain", of("hl3;hl0;", "o.... ..... ..... ..... .....").safe(), 0);
      due("a lawyer with nothing to gain", of("hl0;", "o.... ..... ..... ..... .....").safe(), 1);
    });
    says(TERMS, "CAN: how many CAN be; of a SHAPE", () -> {
      int[][] due = {{81, 25, 20, 20, 16}, {0, 0, 0, 0, 0}, {4, 3, 0, 1, 0}, {9, 4, 2, 2, 1}};
      String[] pictures = {
        ALL, NONE, "....o o.... o.... ..... .....", "..... ..... ..... ...oo ...oo"
      };
      for (int i = 0; i < pictures.length; i++) {
        for (int shape = -1; shape < 4; shape++) {
          due(pictures[i], of("", pictures[i]).can(shape), due[i][shape + 1]);
        }
      }
    });
  }

  // ---- WAYS, FEW, ALIKE, LEAST, SETTLES

  /** Ways to make up the cells from one on, counted one by one. */
  private static long waysByHand(int gone) {
    if (gone == 0) return 1;
    int first = Integer.numberOfTrailingZeros(gone);
    long ways = waysByHand(gone - (1 << first));
    boolean right = first % 5 < 4 && (gone >> first + 1) % 2 == 1;
    boolean lower = first < 20 && (gone >> first + 5) % 2 == 1;
    if (right) ways += waysByHand(gone - (3 << first));
    if (lower) ways += waysByHand(gone - (33 << first));
    if (right && lower && (gone >> first + 6) % 2 == 1) ways += waysByHand(gone - (99 << first));
    return ways;
  }

  private void made() {
    says(TERMS, "in how many ways (told modulo 1000003)", () -> {
      long all = waysByHand(WHOLE);
      due("of all there are more", all > MODULUS ? 1 : 0, 1);
      due("of all", of("", NONE).ways(0), all % MODULUS);
      for (int left = 0; left < 25; left++) {
        CoresAreWills x = of("", NONE);
        x.heals(left);
        due("of all but " + left, x.ways(0), waysByHand(WHOLE - (1 << left)) % MODULUS);
      }
      due("of none there is one", of("", ALL).ways(0), 1);
    });
    says(TERMS, "each CELL by one of them alone (orders do not count)", () -> {
      due("one", of("", ".oooo ooooo ooooo ooooo ooooo").ways(0), 1);
      due("two", of("", "..ooo ooooo ooooo ooooo ooooo").ways(0), 2);
      due("two apart", of("", ".o.oo ooooo ooooo ooooo ooooo").ways(0), 1);
      due("three", of("", "...oo ooooo ooooo ooooo ooooo").ways(0), 3);
      due("three round a corner", of("", "..ooo .oooo ooooo ooooo ooooo").ways(0), 3);
      due("four", of("", "..ooo ..ooo ooooo ooooo ooooo").ways(0), 8);
      due("over a border", of("", "oooo. .oooo ooooo ooooo ooooo").ways(0), 1);
      CoresAreWills x = new CoresAreWills();
      x.bites(3, 0);
      due("however it was bitten", x.ways(0), 8);
    });
    says(TERMS, "FEW: the fewest BITES that can make them up so", () -> {
      due("none", of("", ALL).ways(1), 0);
      due("all", of("", NONE).ways(1), 9);
      due("one", of("", ".oooo ooooo ooooo ooooo ooooo").ways(1), 1);
      due("four", of("", "..ooo ..ooo ooooo ooooo ooooo").ways(1), 1);
      due("four round a corner", of("", "...oo .oooo ooooo ooooo ooooo").ways(1), 2);
      due("a row", of("", "..... ooooo ooooo ooooo ooooo").ways(1), 3);
      due("no two beside", of("", ".o.o. o.o.o .o.o. o.o.o .o.o.").ways(1), 13);
    });
    says(TERMS, "how many unlike cores the four turnings of it make", () -> {
      due("all", of("", ALL).alike(0), 1);
      due("none", of("", NONE).alike(0), 1);
      due("the middle", of("", "..... ..... ..o.. ..... .....").alike(0), 1);
      due("corners", of("", "o...o ..... ..... ..... o...o").alike(0), 1);
      due("a wheel", of("", ".o... ....o ..... o.... ...o.").alike(0), 1);
      due("two", of("", "o.... ..... ..... ..... ....o").alike(0), 2);
      due("two", of("", "..... ..... ooooo ..... .....").alike(0), 2);
      due("four", of("", "o.... ..... ..... ..... .....").alike(0), 4);
      due("four, though alike in a glass", of("", "..o.. ..... ..... ..... .....").alike(0), 4);
    });
    says(TERMS, "of the four turnings, as bits of CELLS LEFT, the least", () -> {
      due("all", of("", ALL).alike(1), WHOLE);
      due("none", of("", NONE).alike(1), 0);
      for (int corner : new int[] {0, 4, 20, 24}) {
        CoresAreWills x = of("", NONE);
        x.heals(corner);
        due("LEFT alone is " + corner, x.alike(1), 1);
        x = new CoresAreWills();
        x.bites(0, corner);
        due("not LEFT alone is " + corner, x.alike(1), WHOLE >> 1);
      }
      for (int cell : new int[] {1, 9, 23, 15}) {
        CoresAreWills x = of("", NONE);
        x.heals(cell);
        due("LEFT alone is " + cell, x.alike(1), 2);
      }
    });
  }

  private void settles(String picture, int many, int cell) {
    CoresAreWills x = of("", picture);
    due("CELLS of " + picture, x.settles(0), many);
    due("the least", x.settles(1), cell);
  }

  private void settled() {
    says(TERMS, "(0 .. 2) LEFT to be bitten singly so that it is not in CHANCERY; -9", () -> {
      settles(ALL, 0, -9);
      settles("..... ..... ..... ..... ....o", 0, -9);
      settles("o...o ..... ..... ..... .....", 1, 0);
      settles("o...o ..... ..... ..... ....o", 2, 0);
      settles("o...o ..... ..... ..... o...o", -9, -9);
      settles(NONE, -9, -9);
      settles(HALVES, 1, 0);
      settles("oo.oo ..... ..... ..... ooooo", 0, -9);
    });
    says(TERMS, "the least CELL of the first such (by CELLS); -9 (0, too)", () -> {
      settles("o.... ..... oo... ..... ...oo", 1, 10);
      settles("..o.. ..o.. ..... oo.oo .....", 2, 2);
      settles("o.... ..... oo.oo ..... ...oo", 2, 10);
      settles("ooooo ooooo ooooo ooooo .....", 0, -9);
    });
    says(TERMS, "PIP: how many PIPS are LEFT; STALK: 1 it is, 0", () -> {
      due("PIPS", of("", ALL).pips(0), 3);
      due("none", of("", "ooooo ooooo o...o ooooo ooooo").pips(0), 0);
      due("STALK", of("", "..o.. ..... ..... ..... .....").pips(1), 1);
      due("no STALK", of("", "oo.oo ooooo ooooo ooooo ooooo").pips(1), 0);
    });
  }

  // ---- GRUDGE, GAIN, JOIN, BRIDGE, MIDDLE, TWO

  private void ofOthers() {
    says(TERMS, "makes his SHARE least, of several the least; -9 nobody else has one", () -> {
      due("alone", of("hp0;", ALL).grudge(0), -9);
      due("his own does not count", of("hp0;hn0;", ALL).grudge(0), -9);
      due("the other's", of("hp0;hn0;", ALL).grudge(1), 0);
      due("two alike", of("hn0;hp0;hp1;", ALL).grudge(0), 1);
      due("two alike, himself ahead", of("hp0;hp1;hp2;", ALL).grudge(0), 1);
      due("two alike, himself between", of("hp0;hp1;hp2;", ALL).grudge(1), 0);
      due("none of five", of("hn0;hn1;hn2;hn3;hn4;", ALL).grudge(4), -9);
      due("none of nothing", of("hp0;hp0;", NONE).grudge(0), -9);
      due("the first, the other hurts less", of("he0;hn0;he0;", HALVES).grudge(0), 1);
      // The nephew bites 0 and leaves the lower half, the elder 15 and leaves the STALK.
      due("the last", of("he0;he0;hn0;", HALVES).grudge(0), 2);
    });
    says(TERMS, "(below 0 less; nothing, if there is none)", () -> {
      due("less", of("hp0;hn0;", ALL).gain(0, 1), -2);
      due("more", of("hn0;hp0;", HALVES).gain(0, 1), 6);
      due("all of a lawyer's", of("hn0;hl9;", HALVES).gain(0, 1), -9);
      due("as much", of("hp0;hn4;", ALL).gain(0, 1), 0);
      due("there is none", of("hn0;hp0;", ALL).gain(0, 1), 0);
      due("there is none of nothing", of("hp0;hl9;", NONE).gain(0, 1), 0);
    });
    says(TERMS, "how many PIECES there were, were it LEFT again", () -> {
      due("none yet", of("", NONE).join(24), 1);
      due("a piece grows", of("", ".oooo ooooo ooooo ooooo ooooo").join(0), 1);
      due("four become one", of("", "..... ..o.. .o.o. ..o.. .....").join(12), 1);
      due("one more", of("", "..... ..o.. .o.o. ..o.. .....").join(0), 5);
      due("not across a border", of("", "....o ..... ..... ..... .....").join(5), 2);
      due("three become one", of("", "oo.oo ..o.. ..... ..... .....").join(2), 1);
    });
  }

  private void bridge(String picture, int many, int least, int middle) {
    CoresAreWills x = of("", picture);
    due("BRIDGES of " + picture, x.bridge(0), many);
    due("the least", x.bridge(1), least);
    due("MIDDLE of " + picture, x.bridge(2), middle);
  }

  private void bridges() {
    says(TERMS, "BRIDGE: CELLS LEFT without which there were more PIECES: how many; the least; -9",
        () -> {
          bridge(ALL, 0, -9, 12);
          bridge("ooooo ..... ..... ..... .....", 3, 1, 2);
          bridge("..... ..... ..... ..... ....o", 0, -9, 24);
          bridge("oo... o.... ..... ..... .....", 1, 0, 0);
          bridge("oooo. o...o o.... oo... ....o", 6, 0, 1);
          bridge("..... ..... ..... ..... ...oo", 0, -9, 23);
          bridge("..... ..... ..... ....o ...oo", 1, 24, 24);
          bridge("ooooo o...o o...o o...o ooooo", 0, -9, 2);
          bridge("ooooo ..... ..... ..... ..ooo", 4, 1, 2);
        });
    says(TERMS, "(rows and columns apart) to all LEFT are fewest, of several the least; -9", () -> {
      bridge(NONE, 0, -9, -9);
      bridge("o...o ..... ..... ..... o...o", 0, -9, 0);
      bridge("o.... ..... ..... ..... ...oo", 0, -9, 23);
      bridge("...oo ..... ..... ..... o....", 0, -9, 3);
      bridge("o.... ..... ..o.. ..... ....o", 0, -9, 12);
      bridge("..... oo.oo ..... ..... .....", 0, -9, 6);
    });
  }

  private void byTurns() {
    says(TERMS, "or by the first that CAN be (1; none: nothing), the first ahead", () -> {
      due("nothing LEFT", of("hn0;hp0;", NONE).two(0, 1), 0);
      due("nothing LEFT for the other", of("hl9;hl9;", "....o ..... ..... ..... .....").two(0, 1), 0);
      due("one LEFT", of("hn4;hn4;", "....o ..... ..... ..... .....").two(0, 1), 0);
      due("two LEFT", of("hn0;hn4;", "o...o ..... ..... ..... .....").two(0, 1), 0);
      due("two LEFT", of("hn0;hn4;", "o...o ..... ..... ..... .....").two(1, 0), 0);
    });
    says(TERMS, "the first pair (10 the first's and the other's)", () -> {
      due("both best", of("hn5;hn0;", ALL).two(0, 1), 0);
      due("the first's first", of("hn5;hp0;", ALL).two(0, 1), 10);
      due("the other way round", of("hn5;hp0;", ALL).two(1, 0), 0);
      due("the other's first", Told.of("hp6;hp6;b216;").two(0, 1), 1);
      due("by another one alone", Told.of("hp6;hp0;b216;").two(0, 1), 10);
      due("of two among five", of("hl0;hn5;hl0;hp0;hl0;", ALL).two(1, 3), 10);
      // Three of one: if the pig bites one, the nephew's best is another, and both have something.
      due("by a first", of("hp1;hn2;", "....o o.... ..o.. ..... .....").two(0, 1), 10);
      // Both want 14 alone. If the first bites 1, the other best bites 11 and 12; so he would not
      // rest, were it so; but if the other bites the first there is, no one gets anywhere.
      due("by two firsts nothing", of("hn9;hn9;", ".o... ..... .oo.o ..... .....").two(0, 1), 1);
    });
  }

  // ---- CHANCE, MEAN, fractions

  private void chance(String heir, String picture, int n, int v, int above, int below) {
    CoresAreWills x = of(heir, picture);
    due("CHANCE of " + v + " by " + n + " of " + heir + picture, x.chance(0, n, v, 0), above);
    due("below the line", x.chance(0, n, v, 1), below);
  }

  private void odds() {
    says(TERMS, "n BITES (0 .. 2) of SHAPE 0 on CELLS LEFT", () -> {
      chance("hn0;", ALL, 0, 5, 1, 1);
      chance("hn0;", ALL, 0, 4, 1, 1);
      chance("hn0;", ALL, 0, 6, 0, 1);
      chance("hn0;", ALL, 1, 5, 4, 5);
      chance("hn0;", ALL, 1, 4, 1, 1);
      chance("hn0;", ALL, 2, 5, 19, 30);
      chance("hp0;", ALL, 2, 2, 1, 1);
      chance("hp0;", ALL, 2, 1, 1, 1);
      chance("hp0;", ALL, 2, 3, 0, 1);
      chance("hl6;", "oo... ..... ..... ..... .....", 1, 1, 0, 1);
      chance("hl6;", "oo... ..... ..... ..... .....", 2, 6, 1, 1);
      chance("hl6;", "ooo.. ..... ..... ..... .....", 1, 6, 1, 3);
      chance("hl6;", "ooo.. ..... ..... ..... .....", 2, 6, 0, 1);
    });
    says(TERMS, "each alike likely (none is LEFT: nothing)", () -> {
      for (int n = 0; n <= 2; n++) {
        chance("hl6;", NONE, n, 6, 1, 1);
        chance("hl6;", NONE, n, 7, 0, 1);
        chance("hn0;", NONE, n, 0, 1, 1);
      }
      chance("hl6;", "..... ..... ..... ..... ....o", 0, 6, 0, 1);
      chance("hl6;", "..... ..... ..... ..... ....o", 1, 6, 1, 1);
      chance("hl6;", "..... ..... ..... ..... ....o", 2, 6, 1, 1);
      chance("hn4;", "..... ..... ..... ..... ....o", 2, 1, 0, 1);
    });
    says(TERMS, "how likely one has v (0 .. 40) or more behind these", () -> {
      chance("hp9;", ALL, 2, 0, 1, 1);
      chance("hp0;", "oo... ..... ..... ..... .....", 1, 24, 1, 1);
      chance("hp0;", "oo... ..... ..... ..... .....", 1, 25, 0, 1);
      chance("hp0;", "oo... ..... ..... ..... .....", 0, 23, 1, 1);
      chance("hn0;", ALL, 0, 40, 0, 1);
    });
    says(TERMS, "MEAN: of SHARES: a fraction (0 by 1 of nobody)", () -> {
      due("above", of("", ALL).mean(0), 0);
      due("below", of("", ALL).mean(1), 1);
      due("above, of nothing", of("", NONE).mean(0), 0);
      due("below, of nothing", of("", NONE).mean(1), 1);
    });
    says(TERMS, "Fractions are told in least terms; 0 as 0 by 1", () -> {
      String[] heirs = {"hp9;", "hn0;", "hn0;he0;", "hn0;hp9;hp9;", "hn0;hn0;hn0;hn0;hp9;",
          "hl0;hl0;hp9;hp9;", "hp9;hp9;hp9;hp9;hp9;", "he0;hp9;hp9;hp9;", "hl9;hl9;hl0;hl0;hl0;"};
      int[][] due = {{0, 1}, {5, 1}, {15, 2}, {5, 3}, {4, 1}, {3, 2}, {0, 1}, {5, 2}, {3, 1}};
      for (int i = 0; i < heirs.length; i++) {
        due("above of " + heirs[i], of(heirs[i], ALL).mean(0), due[i][0]);
        due("below of " + heirs[i], of(heirs[i], ALL).mean(1), due[i][1]);
      }
      chance("hl6;", "oo.oo ..... ..... ..... .....", 1, 6, 0, 1);
      chance("hl6;", "oo.oo ..... ..... ..... .....", 2, 6, 2, 3);
      chance("hl6;", "ooooo ..... ..... ..... .....", 2, 6, 1, 10);
    });
  }

  // ---- WHAT ONE IS, JUDGED

  private void what(String heir, String picture, int kinds, int figures, int... row) {
    CoresAreWills x = of(heir, picture);
    for (int v : row) x.row(v);
    due("KINDS of " + heir + picture, x.whatIs(0, 0), kinds);
    due("FIGURES of " + heir + picture, x.whatIs(0, 1), figures);
  }

  private void figures(String heir, String picture, int figures, int share) {
    CoresAreWills x = of(heir, picture);
    x.row(share);
    due("FIGURES of " + heir + picture, x.whatIs(0, 1), figures);
  }

  private void told() {
    says(TERMS, "as each of CELLS 0, 1, .. alone were bitten (not LEFT: as now)", () -> {
      what("hp0;", ALL, 16, 1, 0, 1, 1, 1);
      what("hp0;", ".oooo ooooo ooooo ooooo ooooo", 16, 1, 1, 1, 2);
      what("hn4;", ALL, 1, 528, 5, 5, 5, 5, 5, 4, 5, 5, 5, 5, 4, 5, 5, 5, 5, 4);
      what("hn4;", ALL, 0, 0, 5, 5, 5, 5, 5, 4, 5, 5, 5, 5, 4, 5, 5, 5, 5, 5);
      what("hn4;", NONE, 55, 1023, 0, 0, 0, 0, 0, 0, 0, 0, 0, 0, 0, 0, 0, 0, 0, 0);
      what("hl4;", NONE, 8, 16, 4, 4, 4, 4, 4, 4, 4, 4, 4, 4, 4, 4, 4, 4, 4, 4);
      // The last piece is bitten and nothing is LEFT: a lawyer has his FIGURE then.
      what("hl7;", "o.... ..... ..... ..... .....", 8, 128, 0, 7);
    });
    says(TERMS, "KINDS (bits) by which, FIGURE as it is, all of it is so (of none all is so)", () -> {
      what("hn0;", ALL, 63, 1023);
      what("hn0;", NONE, 63, 1023);
      what("hn0;", ALL, 1, 1023, 5);
      what("he0;", ALL, 2, 1023, 10);
      what("hw0;", ALL, 36, 1023, 8);
      what("hl0;", ALL, 8, 1023, 3);
      what("hp0;", ALL, 16, 1023, 0);
      what("hn0;", ALL, 0, 0, 99);
    });
    says(TERMS, "FIGURES (bits 0 .. 9) by which, KIND as it is", () -> {
      String stairs = "ooooo oooo. ooo.. oo... o....";
      for (int figure = 0; figure < 10; figure++) {
        figures("hn" + figure + ";", stairs, 33 << figure % 5, 5 - figure % 5);
        figures("he" + figure + ";", stairs, 33 << figure % 5, 10 - figure % 5);
        figures("hp" + figure + ";", stairs, 1 << figure, 10 - figure);
        figures("hl" + figure + ";", NONE, 1 << figure, figure);
      }
      figures("hp0;", ALL, 1023, 0);
      figures("hp0;", ALL, 0, 1);
    });
    says(TERMS, "A ROW of numbers (0 .. 99; 16 at most)", () -> {
      CoresAreWills x = new CoresAreWills();
      due("below", x.row(-1), -4);
      due("above", x.row(100), -6);
      for (int i = 1; i <= 16; i++) due("the " + i + "th", x.row(i % 2 * 99), i);
      due("the 17th", x.row(0), -6);
      due("how many", x.count(6), 16);
    });
    says(TERMS, "the first that is not so (nobody there, too); -9", () -> {
      int[][] rows = {{}, {5}, {5, 10}, {5, 10, 0}, {4}, {5, 9}, {4, 9}, {5, 9, 0}, {0, 10}};
      int[] due = {-9, -9, -9, 2, 0, 1, 0, 1, 0};
      for (int i = 0; i < rows.length; i++) {
        CoresAreWills x = of("hn0;he0;", ALL);
        for (int v : rows[i]) x.row(v);
        due("row " + i, x.judge(), due[i]);
      }
      CoresAreWills x = new CoresAreWills();
      x.row(0);
      due("nobody at all", x.judge(), 0);
    });
  }

  // ---- LOTS

  /** Bites by other objects what the lots draw: all SHARES and how many are in CHANCERY. */
  private static int[] lotsByHand(String heirs, String picture, int n, int z) {
    int[] found = new int[2];
    long seed = z & 4294967295L;
    for (int lot = 0; lot < n; lot++) {
      CoresAreWills x = of(heirs, picture);
      for (int bite = 0; bite < 6; bite++) {
        seed = (seed * 1664525L + 1013904223L) % 4294967296L;
        int shape = (int) (seed % 2147483648L / 256 % 4);
        seed = (seed * 1664525L + 1013904223L) % 4294967296L;
        x.bites(shape, (int) (seed % 2147483648L / 256 % 25));
      }
      found[0] += x.count(4);
      found[1] += x.count(5);
    }
    return found;
  }

  private void lots(String heirs, String picture, int n, int z) {
    int[] due = lotsByHand(heirs, picture, n, z);
    CoresAreWills x = of(heirs, picture);
    due("SHARES of " + n + " lots of " + z, x.lots(n, z, 0), due[0]);
    due("how many of " + n + " lots of " + z, x.lots(n, z, 1), due[1]);
  }

  private void lots() {
    String five = "hn0;he4;hw1;hl9;hk3;";
    says(TERMS, "LOTS with a seed z: n cores (1 .. 20), each from now", () -> {
      for (int n = 1; n <= 20; n++) lots(five, HALVES, n, 12345);
      CoresAreWills x = of("hp0;", ALL);
      x.lots(20, 3, 0);
      due("nothing is bitten", x.count(2), WHOLE);
      due("no BITES", x.count(1), 0);
    });
    says(TERMS, "z becomes z times 1664525 and 1013904223 (an int)", () -> {
      for (int z : new int[] {0, 1, -1, MIN, MAX, MIN + 1, 2000000000, -2000000000}) {
        lots(five, ALL, 20, z);
        lots(five, HALVES, 20, z);
      }
    });
    says(TERMS, "(z without its sign's bit by 256, cut) modulo m", () -> {
      for (int z = -1000000007; z < 1000000000; z += 99999989) lots("hp0;hn2;", ALL, 3, z);
    });
    says(TERMS, "(a BITE, if it CAN be)", () -> {
      lots("hl9;hl9;", NONE, 20, 5);
      due("of nothing", of("hl9;hl9;", NONE).lots(20, 5, 0), 20 * 18);
      due("of nothing", of("hl9;hl9;", NONE).lots(20, 5, 1), 20);
      lots("hl9;hp0;", "..... ..... .oo.. .oo.. .....", 20, 5);
      due("of nobody", of("", ALL).lots(20, 5, 0), 0);
    });
  }

  // ---- THE IMAGE, REFUSALS

  private void image() {
    says(TERMS, "THE IMAGE: all that there is, but it, the ROW, letters, REFUSALS", () -> {
      CoresAreWills x = of("hn3;he4;", HALVES);
      String then = Told.seen(x);
      x.image();
      Told.tell(x, "hk0;b000;r1;");
      x.turn(0, 5, 9);
      due("ON", x.on(), 5);
      due("as then", Told.seen(x).equals(then) ? 1 : 0, 1);
      x.row(1);
      x.letter('h');
      x.cell(-1, 0);
      x.on();
      due("the ROW is as now", x.count(6), 1);
      due("letters are as now", x.count(7), 1);
      due("REFUSALS are as now", x.count(11), 1);
    });
    says(TERMS, "ON from it all is as then", () -> {
      CoresAreWills x = new CoresAreWills();
      due("of a new one", x.image(), 0);
      Told.tell(x, "hn0;hn0;hn0;hn0;hn0;b300;");
      due("ON", x.on(), 0);
      due("HEIRS", x.count(0), 0);
      due("LEFT", x.count(2), WHOLE);
      due("nobody", x.heir(0, 0), -1);
      due("there is room again", Told.tell(x, "hp1;hp2;hp3;hp4;hp5;"), 5);
      due("another image", x.image(), 0);
      x.turn(4, 1, 0);
      x.bites(0, 0);
      due("ON from the newer", x.on(), 0);
      due("the last heir", x.turn(4, 2, 2), 45);
      due("ON once more", x.on(), 0);
      due("the last heir", x.heir(4, 0) * 10 + x.heir(4, 1), 45);
      x.anew();
      x.bites(3, 0);
      x.image();
      due("ON of no other state", x.on(), 1);
    });
  }

  private void numbers() {
    says(TERMS, "Of gain() REFUSALS are 1000000000 less them (-1 is told as 1000000001)", () -> {
      CoresAreWills x = of("hn0;", ALL);
      due("one twice", x.gain(0, 0), 1000000001);
      due("counted", x.count(11), 1);
    });
    says(TERMS, "of longs 4000000000000000000 less them (-1 as 4000000000000000001)", () -> {
      CoresAreWills x = of("hn0;", ALL);
      due("-1", x.chance(1, 0, 0, 0), 4000000000000000001L);
      due("-4", x.chance(0, -1, 0, 0), 4000000000000000004L);
      due("-6", x.chance(0, 3, 0, 0), 4000000000000000006L);
      due("-2", x.chance(0, 0, 0, 2), 4000000000000000002L);
      due("-2", x.mean(2), 4000000000000000002L);
      due("counted", x.count(11) * 1000 + x.count(12) * 100 + x.count(14) * 10 + x.count(16), 1211);
    });
    says(TERMS, "nothing changes but how many there were", () -> {
      CoresAreWills x = of("hn3;hp4;", HALVES);
      String before = Told.seen(x);
      x.bites(0, 10);
      x.heals(0);
      x.turn(0, 5, 10);
      x.turn(2, 0, 0);
      x.rolls(4);
      x.rolls(0);
      x.on();
      x.row(100);
      x.letter(256);
      due("all is as before", Told.seen(x).equals(before) ? 1 : 0, 1);
      int[] due = {1, 0, 3, 1, 0, 4};
      for (int i = 0; i < 6; i++) due("REFUSALS -" + (i + 1), Told.refusals(x)[i], due[i]);
    });
  }
}
