import java.util.Arrays;

/** The boundary cases that the promises 1 .. 37 name, each by a test of its own. */
public final class CallsTest extends Sentences {

  private CallsTest() {
    super("CallsTest");
  }

  public static void main(String[] args) {
    CallsTest test = new CallsTest();
    test.made();
    test.cells();
    test.changes();
    test.shares();
    test.weighed();
    test.counted();
    test.ofTwo();
    test.bridges();
    test.odds();
    test.rows();
    test.kept();
    test.counts();
    test.everyPromise();
    test.ends();
  }

  private void made() {
    says(1, "All LEFT, no HEIRS.", () -> {
      CoresAreWills x = new CoresAreWills();
      int[] due = {0, 0, WHOLE, 25, 0, 0, 0, 0};
      for (int what = 0; what < 8; what++) due("count " + what, x.count(what), due[what]);
      for (int refused : Told.refusals(x)) due("REFUSALS", refused, 0);
      due("no image", x.on(), -3);
    });
    says(1, "`CoresAreWills()`", () -> {
      CoresAreWills one = of("hn0;", NONE);
      one.image();
      one.row(1);
      one.letter('n');
      one.cell(-1, 0);
      CoresAreWills other = new CoresAreWills();
      due("another is new", Told.inside(other).equals(Told.inside(new CoresAreWills())) ? 1 : 0, 1);
      due("the one stays", one.count(2) + one.count(6) + one.count(7) + one.count(11), 3);
    });
    says(2, "A letter (0 .. 255) comes: how many there are.", () -> {
      for (int letter = 0; letter < 256; letter++) {
        due("letter " + letter, new CoresAreWills().letter(letter), 1);
      }
      CoresAreWills x = new CoresAreWills();
      for (int i = 1; i <= 96; i++) due("the " + i + "th", x.letter(255), i);
    });
    says(2, "-4; -6 (255; 96, too).", () -> {
      CoresAreWills x = new CoresAreWills();
      for (int v : new int[] {-1, -256, MIN}) due("letter " + v, x.letter(v), -4);
      for (int v : new int[] {256, 65536 + 110, MAX}) due("letter " + v, x.letter(v), -6);
      Told.letters(x, "n;".repeat(48));
      due("the 97th", x.letter('n'), -6);
      due("the 97th", x.letter(0), -6);
      due("below, full too", x.letter(-1), -4);
      due("letters", x.count(7), 96);
      due("all of them", x.core(), 48);
      due("room again", x.letter('n'), 1);
    });
    says(3, "The letters become a CORE, and are no more (with a FAULT neither)", () -> {
      CoresAreWills x = new CoresAreWills();
      for (String text : new String[] {"n;", "x", "b400;", ""}) {
        Told.tell(x, text);
        due("letters", x.count(7), 0);
        due("none is there again", x.core(), -1000);
      }
      due("the next is read from its start", Told.tell(x, "n;n;"), 2);
      due("and no rest of a longer one", Told.tell(x, "n;"), 1);
    });
    says(3, "how many STATEMENTS; the FAULT (nothing is counted).", () -> {
      CoresAreWills x = new CoresAreWills();
      due("one", Told.tell(x, "n;"), 1);
      due("48", Told.tell(x, "n;".repeat(48)), 48);
      due("kind 1", Told.tell(x, "n;x"), -1002);
      due("kind 2", Told.tell(x, "n;l99;"), -2002);
      due("none", x.core(), -1000);
      for (int refused : Told.refusals(x)) due("REFUSALS", refused, 0);
    });
  }

  private void cells() {
    says(4, "0 LEFT (1, 0), 1 how many LEFT are BESIDE it", () -> {
      CoresAreWills x = of("", "..o.. .o.o. ..o.. ..... ....o");
      due("LEFT", x.cell(2, 0), 1);
      due("not LEFT", x.cell(7, 0), 0);
      due("four, of one not LEFT", x.cell(7, 1), 4);
      due("none, of one LEFT", x.cell(2, 1), 0);
      due("none, of the last", x.cell(24, 1), 0);
      due("two, of a corner of them", x.cell(1, 1), 2);
      due("not over a border", of("", "....o ..... ..... ..... .....").cell(5, 1), 0);
    });
    says(4, "2 how many CELLS its PIECE has (0 not LEFT). -1; -2.", () -> {
      CoresAreWills x = of("", "oo... ..... ....o ....o ...oo");
      due("a PIECE", x.cell(1, 2), 2);
      due("another", x.cell(23, 2), 4);
      due("not LEFT", x.cell(2, 2), 0);
      due("all", of("", ALL).cell(24, 2), 25);
      due("in CHANCERY", of("", HALVES).cell(24, 2), 10);
      due("-1 ahead of -2", x.cell(25, 3), -1);
      due("-2", x.cell(24, 3), -2);
    });
    says(5, "2 SHARE. -1; -2.", () -> {
      CoresAreWills x = of("hl0;hl1;hl2;hl3;hl4;", NONE);
      for (int heir = 0; heir < 5; heir++) due("heir " + heir, x.heir(heir, 2), heir);
      due("below", x.heir(-1, 2), -1);
      due("above", x.heir(5, 2), -1);
      due("-1 ahead of -2", x.heir(5, 3), -1);
      due("-2", x.heir(4, 3), -2);
      due("of nobody", new CoresAreWills().heir(0, 0), -1);
    });
  }

  private void changes() {
    says(6, "A BITE: how many CELLS are LEFT.", () -> {
      CoresAreWills x = of("", "oo... oo... ...oo ..... ....o");
      due("four", x.bites(3, 0), 3);
      due("two", x.bites(1, 13), 1);
      due("the last", x.bites(0, 24), 0);
    });
    says(6, "-2; -1; -3 it can not be.", () -> {
      CoresAreWills x = new CoresAreWills();
      due("-2 ahead of -1", x.bites(4, 25), -2);
      due("-2 below", x.bites(-1, 0), -2);
      due("-1 below", x.bites(3, -1), -1);
      due("-1 above", x.bites(0, 25), -1);
      due("over the right border", x.bites(1, 24), -3);
      due("over the lower border", x.bites(2, 24), -3);
      due("over both", x.bites(3, 24), -3);
      due("the corner alone", x.bites(0, 24), 24);
      due("again", x.bites(0, 24), -3);
      due("BITES", x.count(1), 1);
    });
    says(7, "It is LEFT again: how many are. -1; -3 it is LEFT.", () -> {
      CoresAreWills x = of("", NONE);
      for (int cell = 0; cell < 25; cell++) {
        due("heals " + cell, x.heals(cell), cell + 1);
        due("again", x.heals(cell), -3);
        due("LEFT", x.cell(cell, 0), 1);
      }
      due("below", x.heals(-1), -1);
      due("above", x.heals(25), -1);
      due("BITES stay", x.count(1), 25);
    });
    says(8, "The core is turned: how many are LEFT. -4 below 1; -6 3.", () -> {
      String[] turned = {
        "oo... o.... ..... ..... .....", "...oo ....o ..... ..... .....",
        "..... ..... ..... ....o ...oo", "..... ..... ..... o.... oo..."
      };
      for (int quarters = 1; quarters <= 3; quarters++) {
        CoresAreWills x = of("hn0;", turned[0]);
        due("rolls " + quarters, x.rolls(quarters), 3);
        due("turned", x.count(2), Told.left(turned[quarters]));
        due("HEIRS stay", x.count(0), 1);
        due("BITES stay", x.count(1), 22);
        due("and back", x.rolls(4 - quarters), 3);
        due("as it was", x.count(2), Told.left(turned[0]));
      }
      CoresAreWills x = of("", NONE);
      due("nothing LEFT", x.rolls(1), 0);
      for (int v : new int[] {0, -1, MIN}) due("rolls " + v, x.rolls(v), -4);
      for (int v : new int[] {4, 5, MAX}) due("rolls " + v, x.rolls(v), -6);
    });
    says(9, "10 times the KIND and the FIGURE it had. -1; -2; -4; -6 9.", () -> {
      CoresAreWills x = of("hn0;hk9;", ALL);
      due("the least", x.turn(0, 5, 9), 0);
      due("the most", x.turn(1, 0, 0), 59);
      due("turned", x.heir(0, 0) * 10 + x.heir(0, 1), 59);
      due("-1 ahead of -2", x.turn(2, 6, -1), -1);
      due("-2 ahead of -4", x.turn(0, 6, -1), -2);
      due("-2 ahead of -6", x.turn(0, -1, 10), -2);
      due("-4", x.turn(0, 0, -1), -4);
      due("-6", x.turn(0, 0, 10), -6);
      due("as it was", x.turn(0, 5, 9), 59);
    });
    says(10, "All is LEFT again, BITES 0: how many BITES there were.", () -> {
      CoresAreWills x = of("hn0;", NONE);
      due("25", x.anew(), 25);
      due("LEFT", x.count(2), WHOLE);
      due("BITES", x.count(1), 0);
      due("none", x.anew(), 0);
      due("HEIRS stay", x.count(0), 1);
      x.bites(0, 0);
      x.heals(0);
      due("BITES of what is LEFT again", x.anew(), 1);
    });
  }

  private void shares() {
    says(11, "All SHARES (what 0), RICHEST (1; -9). -2.", () -> {
      due("of nobody", new CoresAreWills().shares(0), 0);
      due("RICHEST of nobody", new CoresAreWills().shares(1), -9);
      CoresAreWills x = of("hl9;hl9;hl9;hl9;hl9;", HALVES);
      due("of five", x.shares(0), 45);
      due("RICHEST of five alike", x.shares(1), 0);
      due("-2", x.shares(2), -2);
    });
    says(12, "CELLS of the least one (1), THE DEED (2; -9), its CELLS (3; -9). -2.", () -> {
      int[][] due = {{1, 25, 0, 25}, {0, 0, -9, -9}, {2, 10, -9, -9}, {3, 1, 12, 2}};
      String[] pictures = {ALL, NONE, HALVES, "....o ..... ..oo. ..... o...."};
      for (int i = 0; i < pictures.length; i++) {
        for (int what = 0; what < 4; what++) {
          due(pictures[i], of("", pictures[i]).pieces(what), due[i][what]);
        }
      }
      due("-2", new CoresAreWills().pieces(4), -2);
    });
    says(13, "EDGE (what 0), HOLES (1). -2.", () -> {
      due("EDGE of nothing", of("", NONE).edge(0), 0);
      due("HOLES of nothing", of("", NONE).edge(1), 0);
      due("EDGE of a hole", of("", "ooooo ooooo oo.oo ooooo ooooo").edge(0), 24);
      due("HOLES", of("", "ooooo ooooo oo.oo ooooo ooooo").edge(1), 1);
      due("-2", new CoresAreWills().edge(2), -2);
    });
  }

  private void weighed() {
    says(14, "100 times the SHAPE and the CELL (what 0; -9), that SHARE (1; -9). -1; -2.", () -> {
      CoresAreWills x = of("hp0;hn0;", "..... ..... ..... ...oo ...oo");
      // A bite of all four leaves nothing, one of two leaves two beside.
      due("BEST", x.best(0, 0), 118);
      due("that SHARE", x.best(0, 1), 23);
      due("none", x.best(1, 0), -9);
      due("no SHARE", x.best(1, 1), -9);
      due("-1 ahead of -2", x.best(2, 2), -1);
      due("-2", x.best(1, 2), -2);
      due("the last bite of a full core", of("hk0;", "o.... o.... ..... ..... .....").best(0, 0), -9);
    });
    says(15, "WORST: likewise. -1; -2.", () -> {
      CoresAreWills x = of("hp0;hn0;", "..... ..... ..... ...oo ...oo");
      due("WORST", x.worst(0, 0), 318);
      due("that SHARE", x.worst(0, 1), 0);
      due("none", x.worst(1, 0), -9);
      due("no SHARE", x.worst(1, 1), -9);
      due("-1 ahead of -2", x.worst(2, 2), -1);
      due("-2", x.worst(1, 2), -2);
    });
    says(16, "how many (what 0; -9), the first (1; -9). -1; -4; -6 40; -2.", () -> {
      CoresAreWills x = of("hl9;", "oo... ..... ..... ..... ...oo");
      due("none is needed", x.fewest(0, 9, 0), 0);
      due("none is the first", x.fewest(0, 9, 1), -9);
      due("none can do", x.fewest(0, 10, 0), -9);
      due("none can do", x.fewest(0, 10, 1), -9);
      due("the greatest", x.fewest(0, 40, 0), -9);
      due("the least", x.fewest(0, 0, 0), 0);
      due("-1 ahead of -4", x.fewest(1, -1, 2), -1);
      due("-4 ahead of -2", x.fewest(0, -1, 2), -4);
      due("-6 ahead of -2", x.fewest(0, 41, 2), -6);
      due("-2", x.fewest(0, 40, 2), -2);
      CoresAreWills y = of("hl9;", "oo... ..... ..... ..... ....o");
      due("one", y.fewest(0, 9, 0), 1);
      due("the first", y.fewest(0, 9, 1), 0);
      y = of("hl9;", "oo... ..... ..... ..... .....");
      due("the last two by one", y.fewest(0, 9, 0), 1);
      due("the first", y.fewest(0, 9, 1), 100);
    });
    says(17, "SAFE.", () -> {
      due("all", new CoresAreWills().safe(), 81);
      due("none", of("hl1;", "o.... ..... ..... ..... .....").safe(), 0);
      due("none there", of("hl1;", NONE).safe(), 0);
    });
  }

  private void counted() {
    says(18, "of a SHAPE (-1: of all). -2.", () -> {
      CoresAreWills x = new CoresAreWills();
      int[] due = {-2, 81, 25, 20, 20, 16, -2};
      for (int shape = -2; shape <= 4; shape++) due("can " + shape, x.can(shape), due[shape + 2]);
      for (int shape = -1; shape < 4; shape++) due("of nothing", of("", NONE).can(shape), 0);
    });
    says(19, "WAYS (what 0), FEW (1). -2.", () -> {
      due("of none", new CoresAreWills().ways(0), 1);
      due("FEW of none", new CoresAreWills().ways(1), 0);
      due("-2", new CoresAreWills().ways(2), -2);
      due("FEW of all", of("", NONE).ways(1), 9);
    });
    says(20, "ALIKE (what 0), LEAST (1). -2.", () -> {
      due("of nothing", of("", NONE).alike(0), 1);
      due("LEAST of nothing", of("", NONE).alike(1), 0);
      due("LEAST of all", new CoresAreWills().alike(1), WHOLE);
      due("-2", new CoresAreWills().alike(2), -2);
    });
    says(21, "how many (what 0; -9), the least CELL (1; -9). -2.", () -> {
      due("it is settled", new CoresAreWills().settles(0), 0);
      due("none is to be bitten", new CoresAreWills().settles(1), -9);
      due("none can", of("", NONE).settles(0), -9);
      due("none can", of("", NONE).settles(1), -9);
      due("two", of("", "o.o.o ..... ..... ..... .....").settles(0), 2);
      due("the least", of("", "o.o.o ..... ..... ..... .....").settles(1), 0);
      due("-2", new CoresAreWills().settles(2), -2);
    });
    says(22, "PIP (what 0), STALK (1). -2.", () -> {
      due("PIPS of nothing", of("", NONE).pips(0), 0);
      due("STALK of nothing", of("", NONE).pips(1), 0);
      due("PIPS of CHANCERY", of("", "ooooo ..... ooooo ..... .....").pips(0), 3);
      due("STALK of CHANCERY", of("", "ooooo ..... ooooo ..... .....").pips(1), 1);
      due("-2", new CoresAreWills().pips(2), -2);
    });
  }

  private void ofTwo() {
    says(23, "GRUDGE; -9. -1.", () -> {
      CoresAreWills x = of("hp0;hn0;", ALL);
      due("GRUDGE", x.grudge(1), 0);
      due("nobody", x.grudge(0), -9);
      due("-1", x.grudge(2), -1);
      due("-1", x.grudge(-1), -1);
    });
    says(24, "Refused as told: -1 either (one twice, too).", () -> {
      CoresAreWills x = of("hp0;hn0;hn1;hn2;hn3;", ALL);
      int[][] pairs = {{0, 0}, {4, 4}, {5, 0}, {0, 5}, {-1, 0}, {0, -1}, {5, 5}, {MIN, MAX}};
      for (int[] pair : pairs) due(Arrays.toString(pair), x.gain(pair[0], pair[1]), 1000000001);
      due("REFUSALS", x.count(11), pairs.length);
      due("the last", x.gain(0, 4), 0);
      due("below 0 is no refusal", x.gain(0, 1), -2);
      due("REFUSALS", x.count(11), pairs.length);
    });
    says(27, "TWO; -9. -1 either (one twice, too).", () -> {
      CoresAreWills x = of("hp0;hn0;hn1;hn2;hn3;", ALL);
      int[][] pairs = {{0, 0}, {4, 4}, {5, 0}, {0, 5}, {-1, 0}, {0, -1}, {5, 5}, {MIN, MAX}};
      for (int[] pair : pairs) due(Arrays.toString(pair), x.two(pair[0], pair[1]), -1);
      due("REFUSALS", x.count(11), pairs.length);
      due("the last", x.two(3, 4), 0);
    });
  }

  private void bridges() {
    says(25, "JOIN. -1; -3 it is LEFT.", () -> {
      CoresAreWills x = of("", NONE);
      for (int cell = 0; cell < 25; cell++) due("JOIN " + cell, x.join(cell), 1);
      due("-1 below", x.join(-1), -1);
      due("-1 above", x.join(25), -1);
      due("-3", new CoresAreWills().join(24), -3);
      due("the most", of("", "o.o.o .o.o. o.o.o .o.o. o.o..").join(24), 13);
    });
    says(26, "how many (what 0), the least (1; -9), MIDDLE (2; -9). -2.", () -> {
      due("none", new CoresAreWills().bridge(0), 0);
      due("no least", new CoresAreWills().bridge(1), -9);
      due("MIDDLE", new CoresAreWills().bridge(2), 12);
      due("none of nothing", of("", NONE).bridge(0), 0);
      due("no least of nothing", of("", NONE).bridge(1), -9);
      due("no MIDDLE of nothing", of("", NONE).bridge(2), -9);
      due("-2", new CoresAreWills().bridge(3), -2);
    });
  }

  private void odds() {
    says(28, "CHANCE, part 0 above, 1 below the line.", () -> {
      CoresAreWills x = of("hn0;", ALL);
      due("above", x.chance(0, 1, 5, 0), 4);
      due("below", x.chance(0, 1, 5, 1), 5);
      due("0 above", x.chance(0, 2, 40, 0), 0);
      due("1 below", x.chance(0, 2, 40, 1), 1);
    });
    says(28, "Refused as told: -1; -4 either; -6 (2; 40); -2.", () -> {
      CoresAreWills x = of("hn0;", ALL);
      long refused = 4000000000000000000L;
      due("-1 ahead of all", x.chance(1, -1, -1, 2), refused + 1);
      due("-4 of n", x.chance(0, -1, 0, 2), refused + 4);
      due("-4 of v", x.chance(0, 0, -1, 2), refused + 4);
      due("-4 of v ahead of -6 of n", x.chance(0, 3, -1, 2), refused + 4);
      due("-4 of n ahead of -6 of v", x.chance(0, -1, 41, 2), refused + 4);
      due("-6 of n", x.chance(0, 3, 40, 2), refused + 6);
      due("-6 of v", x.chance(0, 2, 41, 2), refused + 6);
      due("-2", x.chance(0, 2, 40, 2), refused + 2);
      due("-2", x.chance(0, 0, 0, -1), refused + 2);
    });
    says(29, "MEAN. Refused as told: -2.", () -> {
      CoresAreWills x = new CoresAreWills();
      due("above of nobody", x.mean(0), 0);
      due("below of nobody", x.mean(1), 1);
      due("-2", x.mean(2), 4000000000000000002L);
      due("-2", x.mean(-1), 4000000000000000002L);
      due("REFUSALS", x.count(12), 2);
    });
    says(34, "LOTS: SHARES (what 0), how many in CHANCERY (1). -4; -6 20; -2.", () -> {
      CoresAreWills x = of("hl1;", NONE);
      due("one", x.lots(1, 0, 0), 1);
      due("20", x.lots(20, 0, 1), 20);
      due("-4 ahead of -2", x.lots(0, 0, 2), -4);
      due("-6 ahead of -2", x.lots(21, 0, 2), -6);
      due("-2", x.lots(20, 0, 2), -2);
      for (int z : new int[] {MIN, -1, MAX}) due("whatever seed", x.lots(1, z, 1), 1);
    });
  }

  private void rows() {
    says(30, "WHAT ONE IS by the ROW (it stays)", () -> {
      CoresAreWills x = of("hn0;he0;", ALL);
      due("KINDS of no ROW", x.whatIs(1, 0), 63);
      due("FIGURES of no ROW", x.whatIs(1, 1), 1023);
      x.row(10);
      due("KINDS", x.whatIs(1, 0), 2);
      due("it stays", x.count(6), 1);
      due("FIGURES of the first", x.whatIs(0, 1), 0);
      due("FIGURES of the last", x.whatIs(1, 1), 1023);
      due("-1 ahead of -2", x.whatIs(2, 2), -1);
      due("-2", x.whatIs(1, 2), -2);
    });
    says(31, "A number more of the ROW (0 .. 99): how many. -4; -6 (99; 16, too).", () -> {
      CoresAreWills x = new CoresAreWills();
      due("-4", x.row(-1), -4);
      due("-6", x.row(100), -6);
      for (int i = 1; i <= 16; i++) due("the " + i + "th", x.row(99), i);
      due("the 17th", x.row(99), -6);
      due("-4 ahead of -6", x.row(-1), -4);
      due("clear", x.clear(), 16);
      due("room again", x.row(0), 1);
    });
    says(32, "JUDGED; -9 (whichever it answers, the ROW has none then).", () -> {
      CoresAreWills x = of("hn0;", ALL);
      due("no ROW", x.judge(), -9);
      x.row(5);
      due("all so", x.judge(), -9);
      due("none then", x.count(6), 0);
      x.row(4);
      due("not so", x.judge(), 0);
      due("none then", x.count(6), 0);
      x.row(5);
      x.row(5);
      due("nobody there", x.judge(), 1);
      due("none then", x.count(6), 0);
      for (int i = 0; i < 16; i++) x.row(5);
      due("of 16", x.judge(), 1);
      due("room again", x.row(5), 1);
    });
    says(33, "The ROW has none then: how many it had.", () -> {
      CoresAreWills x = new CoresAreWills();
      due("none", x.clear(), 0);
      for (int i = 0; i < 16; i++) x.row(i);
      due("16", x.clear(), 16);
      due("none", x.clear(), 0);
      due("in the ROW", x.count(6), 0);
    });
  }

  private void kept() {
    says(35, "THE IMAGE is taken: BITES.", () -> {
      CoresAreWills x = new CoresAreWills();
      due("of a new one", x.image(), 0);
      x.bites(0, 0);
      due("BITES", x.image(), 1);
      due("twice", x.image(), 1);
    });
    says(36, "ON from it: BITES. -3 there is none.", () -> {
      CoresAreWills x = new CoresAreWills();
      due("none", x.on(), -3);
      due("none still", x.on(), -3);
      due("REFUSALS", x.count(13), 2);
      x.bites(3, 0);
      x.image();
      x.anew();
      due("ON", x.on(), 1);
      due("LEFT", x.count(3), 21);
      due("it is there still", x.on(), 1);
    });
  }

  private void counts() {
    says(37, "0 HEIRS, 1 BITES, 2 CELLS LEFT (bits), 3 how many are LEFT", () -> {
      CoresAreWills x = of("hn0;hn0;hn0;hn0;hn0;", NONE);
      int[] due = {5, 25, 0, 0};
      for (int what = 0; what < 4; what++) due("count " + what, x.count(what), due[what]);
      x.heals(24);
      due("the highest bit", x.count(2), 1 << 24);
      due("one", x.count(3), 1);
    });
    says(37, "4 all SHARES, 5 1 in CHANCERY, 6 in the ROW, 7 letters", () -> {
      CoresAreWills x = of("hl9;hl8;", HALVES);
      for (int i = 0; i < 16; i++) x.row(0);
      for (int i = 0; i < 96; i++) x.letter(0);
      int[] due = {17, 1, 16, 96};
      for (int what = 4; what < 8; what++) due("count " + what, x.count(what), due[what - 4]);
      x.bites(0, 0);
      due("settled", x.count(5), 0);
      due("in CHANCERY, nothing LEFT", of("", NONE).count(5), 1);
    });
    says(37, "11 .. 16 REFUSALS -1 .. -6. -9 for another what.", () -> {
      CoresAreWills x = new CoresAreWills();
      int[] many = {2, 3, 4, 5, 0, 6};
      for (int i = 0; i < 2; i++) x.join(25);
      for (int i = 0; i < 3; i++) x.can(4);
      for (int i = 0; i < 4; i++) x.on();
      for (int i = 0; i < 5; i++) x.row(-1);
      for (int i = 0; i < 6; i++) x.letter(256);
      for (int i = 0; i < 6; i++) due("REFUSALS -" + (i + 1), x.count(11 + i), many[i]);
      for (int what : new int[] {MIN, -9, -1, 8, 9, 10, 17, 100, MAX}) {
        due("count " + what, x.count(what), -9);
      }
      for (int i = 0; i < 6; i++) due("no more", x.count(11 + i), many[i]);
    });
    says(TERMS, "An object is used for at most 512 calls", () -> {
      CoresAreWills x = of("hn9;hp9;hw3;hl4;hk0;", ALL);
      for (int call = 22; call < 511; call++) x.cell(25, 0);
      due("the 511th", x.count(11), 489);
      due("the 512th", x.fewest(1, 40, 0), -9);
    });
  }

  /** Each promise has a sentence of its own here. */
  private void everyPromise() {
    for (int promise = 1; promise <= Document.PROMISES; promise++) {
      checks.holds("promise " + promise + " is tested", isTested(promise));
    }
  }
}
