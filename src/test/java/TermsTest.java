/** The boundary cases that "Terms" names, each by a test of its own. */
public final class TermsTest extends Sentences {
  private static final String SHAPES =
      "0 it alone; 1 it and the right one; 2 it and the lower one; 3 these four";

  private TermsTest() {
    super("TermsTest");
  }

  public static void main(String[] args) {
    TermsTest test = new TermsTest();
    test.cells();
    test.heirs();
    test.bites();
    test.letters();
    test.statements();
    test.faults();
    test.pieces();
    test.kinds();
    test.ends();
  }

  // ---- CELLS, HEIRS, BITES

  private void cells() {
    says(TERMS, "CELLS 0 .. 24", () -> {
      CoresAreWills x = new CoresAreWills();
      for (int cell = -2; cell <= 26; cell++) {
        due("cell " + cell, x.cell(cell, 0), cell < 0 || cell > 24 ? -1 : 1);
      }
    });
    says(TERMS, "row CELL by 5, column CELL modulo 5", () -> {
      // A nephew of a column bitten but for row 4, by which all hangs together, has one of it.
      for (int column = 0; column < 5; column++) {
        CoresAreWills x = of("hn0;hn1;hn2;hn3;hn4;", ALL);
        for (int row = 0; row < 4; row++) x.bites(0, 5 * row + column);
        for (int heir = 0; heir < 5; heir++) {
          due("column " + column + " of heir " + heir, x.heir(heir, 2), heir == column ? 1 : 5);
        }
      }
    });
    says(TERMS, "BESIDE: up, left, right, down", () -> {
      CoresAreWills x = new CoresAreWills();
      for (int cell = 0; cell < 25; cell++) {
        int borders = 0;
        if (cell / 5 == 0) borders++;
        if (cell / 5 == 4) borders++;
        if (cell % 5 == 0) borders++;
        if (cell % 5 == 4) borders++;
        due("beside " + cell, x.cell(cell, 1), 4 - borders);
      }
      for (int one = 0; one < 25; one++) {
        CoresAreWills y = of("", NONE);
        y.heals(one);
        for (int cell = 0; cell < 25; cell++) {
          int apart = Math.abs(cell / 5 - one / 5) + Math.abs(cell % 5 - one % 5);
          due(one + " beside " + cell, y.cell(cell, 1), apart == 1 ? 1 : 0);
        }
      }
    });
    says(TERMS, "each LEFT (at first) or not", () -> {
      due("at first", new CoresAreWills().count(2), WHOLE);
      due("none", of("", NONE).count(2), 0);
    });
    says(TERMS, "The STALK is CELL 2; PIPS are CELLS 11, 12, 13", () -> {
      for (int cell = 0; cell < 25; cell++) {
        CoresAreWills x = new CoresAreWills();
        x.bites(0, cell);
        due("STALK without " + cell, x.pips(1), cell == 2 ? 0 : 1);
        due("PIPS without " + cell, x.pips(0), cell >= 11 && cell <= 13 ? 2 : 3);
      }
    });
  }

  private void heirs() {
    says(TERMS, "HEIRS 0 .. as they come (5 at most)", () -> {
      CoresAreWills x = new CoresAreWills();
      for (int heir = 0; heir < 5; heir++) {
        due("told", Told.tell(x, "hp" + heir + ";"), 1);
        due("how many", x.count(0), heir + 1);
        due("the last of them", x.heir(heir, 1), heir);
        due("one behind the last", x.heir(heir + 1, 1), -1);
      }
      due("a sixth", Told.tell(x, "hp5;"), -2000);
      due("how many", x.count(0), 5);
    });
    says(TERMS, "KIND, FIGURE (0 .. 9)", () -> {
      for (int kind = 0; kind < 6; kind++) {
        for (int figure = 0; figure < 10; figure++) {
          CoresAreWills x = of("h" + "newlpk".charAt(kind) + figure + ";", ALL);
          due("KIND", x.heir(0, 0), kind);
          due("FIGURE", x.heir(0, 1), figure);
        }
      }
    });
    says(TERMS, "BITES so far (0 .. 999; 0 at first)", () -> {
      CoresAreWills x = new CoresAreWills();
      due("at first", x.count(1), 0);
      for (int bite = 1; bite <= 255; bite++) {
        x.bites(0, 7);
        x.heals(7);
      }
      due("as many as its calls can be", x.count(1), 255);
    });
    says(TERMS, "BITES are 1 more (999 at most)", () -> {
      // No 512 calls come so far; what is asked here is that the number does not run on.
      CoresAreWills x = new CoresAreWills();
      for (int bite = 1; bite <= 1010; bite++) {
        x.bites(3, 18);
        for (int cell : new int[] {18, 19, 23, 24}) x.heals(cell);
        due("BITES", x.count(1), Math.min(bite, 999));
      }
      Told.tell(x, "b000;");
      due("BITES by a text", x.count(1), 999);
      due("image", x.image(), 999);
      due("anew", x.anew(), 999);
      due("anew", x.anew(), 0);
    });
  }

  private static int cellsOf(int shape, int cell) {
    int wide = shape % 2 == 1 ? 2 : 1;
    int high = shape >= 2 ? 2 : 1;
    if (cell % 5 + wide > 5 || cell / 5 + high > 5) return 0;
    int cells = 0;
    for (int row = 0; row < high; row++) {
      for (int column = 0; column < wide; column++) cells += 1 << cell + 5 * row + column;
    }
    return cells;
  }

  private void bites() {
    says(TERMS, SHAPES, () -> {
      for (int shape = 0; shape < 4; shape++) {
        for (int cell = 0; cell < 25; cell++) {
          CoresAreWills x = new CoresAreWills();
          x.bites(shape, cell);
          due(shape + " at " + cell, x.count(2), WHOLE - cellsOf(shape, cell));
        }
      }
    });
    says(TERMS, "It CAN be, if all its CELLS are there and LEFT", () -> {
      for (int shape = 0; shape < 4; shape++) {
        for (int cell = 0; cell < 25; cell++) {
          int cells = cellsOf(shape, cell);
          due(shape + " at " + cell + " is there", new CoresAreWills().bites(shape, cell),
              cells == 0 ? -3 : 25 - Integer.bitCount(cells));
          for (int gone = 0; gone < 25; gone++) {
            CoresAreWills x = new CoresAreWills();
            x.bites(0, gone);
            boolean can = cells != 0 && (cells >> gone) % 2 == 0;
            due(shape + " at " + cell + " without " + gone, x.bites(shape, cell),
                can ? 24 - Integer.bitCount(cells) : -3);
            due("BITES", x.count(1), can ? 2 : 1);
          }
        }
      }
    });
    says(TERMS, "then they are not any more, BITES are 1 more", () -> {
      CoresAreWills x = new CoresAreWills();
      due("of four", x.bites(3, 0), 21);
      due("BITES", x.count(1), 1);
      due("again", x.bites(3, 0), -3);
      due("BITES", x.count(1), 1);
    });
  }

  // ---- the CORE told in letters

  private void letters() {
    says(TERMS, "A CORE is told in letters, one by one (96 at most)", () -> {
      due("96 letters", core("n;".repeat(48)), 48);
      due("95 letters", core("b000;l00;".repeat(10) + "b000;"), 21);
      due("96 letters", core("b000;l00;".repeat(9) + "r1;".repeat(5)), 23);
      due("96 letters that lack one", core("n;".repeat(46) + "hn0n"), -1095);
      due("96 letters, the end lacks", core("n;".repeat(47) + "hn"), -1096);
      due("the 97th is no more", core("n;".repeat(48) + "x"), 48);
      due("the 97th would end it", core("n;".repeat(46) + "b000;"), -1096);
    });
    says(TERMS, "each with \";\" behind", () -> {
      due("h", core("hn0"), -1003);
      due("b", core("b000"), -1004);
      due("l", core("l00"), -1003);
      due("r", core("r1"), -1002);
      due("n", core("n"), -1001);
      due("h", core("hn0hn0;"), -1003);
      due("b", core("b000b000;"), -1004);
      due("l", core("l00l00;"), -1003);
      due("r", core("r1r1;"), -1002);
      due("n", core("nn;"), -1001);
      due("two behind", core("n;;"), -1002);
    });
    says(TERMS, "At least one STATEMENT", () -> {
      due("none", core(""), -1000);
      due("none but its end", core(";"), -1000);
      CoresAreWills x = of("hn0;", ALL);
      due("none, of a core with heirs", x.core(), -1000);
      due("no heirs lost", x.count(0), 1);
      due("one", Told.tell(x, "n;"), 1);
    });
  }

  private void statements() {
    says(TERMS, "\"h\" a letter of a KIND, FIGURE (a digit): an HEIR more", () -> {
      for (int letter = 0; letter < 256; letter++) {
        due("KIND " + letter, core("h" + (char) letter + "0;"),
            "newlpk".indexOf(letter) < 0 ? -1001 : 1);
        due("FIGURE " + letter, core("hn" + (char) letter + ";"),
            letter < 48 || letter > 57 ? -1002 : 1);
      }
    });
    says(TERMS, "\"b\" SHAPE (a digit), a CELL (2 digits): a BITE", () -> {
      for (int shape = 0; shape < 10; shape++) {
        for (int cell = 0; cell < 100; cell++) {
          boolean can = shape < 4 && cell < 25 && cellsOf(shape, cell) != 0;
          CoresAreWills x = new CoresAreWills();
          due("b" + shape + two(cell), Told.tell(x, "b" + shape + two(cell) + ";"),
              can ? 1 : -2000);
          due("LEFT", x.count(2), can ? WHOLE - cellsOf(shape, cell) : WHOLE);
          due("BITES", x.count(1), can ? 1 : 0);
        }
      }
    });
    says(TERMS, "\"l\" a CELL (2 digits): it is LEFT again", () -> {
      for (int cell = 0; cell < 100; cell++) {
        CoresAreWills x = of("", NONE);
        due("l" + two(cell), Told.tell(x, "l" + two(cell) + ";"), cell < 25 ? 1 : -2000);
        due("LEFT", x.count(2), cell < 25 ? 1 << cell : 0);
        due("BITES", x.count(1), 25);
      }
      // The document lists what is a FAULT: a CELL that is LEFT already is not in the list.
      due("of one LEFT", core("l00;"), 1);
    });
    says(TERMS, "\"r\" QUARTERS (a digit, 1 .. 3)", () -> {
      for (int quarters = 0; quarters < 10; quarters++) {
        due("r" + quarters, core("r" + quarters + ";"), quarters < 1 || quarters > 3 ? -2000 : 1);
      }
    });
    says(TERMS, "row r, column c comes to row c, column 4 less r", () -> {
      for (int cell = 0; cell < 25; cell++) {
        int row = cell / 5;
        int column = cell % 5;
        for (int quarters = 1; quarters <= 3; quarters++) {
          int to = row;
          row = column;
          column = 4 - to;
          CoresAreWills x = of("", NONE);
          x.heals(cell);
          Told.tell(x, "r" + quarters + ";");
          due(cell + " by " + quarters, x.count(2), 1 << 5 * row + column);
        }
        // A fourth quarter brings it back.
        due(cell + " by four", 5 * column + 4 - row, cell);
      }
    });
    says(TERMS, "STALK and PIPS stay where they are", () -> {
      CoresAreWills x = of("he2;hw0;", "..... ..... ..... ..... ..o..");
      Told.tell(x, "r2;");
      due("CELL 2 is LEFT now", x.pips(1), 1);
      due("and of the DEED", x.heir(0, 2), 6);
      x = of("hw9;", "..... .o... ..o.. ...o. .....");
      due("a PIP", x.pips(0), 1);
      Told.tell(x, "r1;");
      due("a PIP", x.pips(0), 1);
      due("turned", x.count(2), Told.left("..... ...o. ..o.. .o... ....."));
      x = of("", "..... ..... .o.o. ..... .....");
      Told.tell(x, "r1;");
      due("no PIP", x.pips(0), 0);
    });
    says(TERMS, "\"n\": all is LEFT again, BITES 0", () -> {
      CoresAreWills x = of("hn0;", NONE);
      due("n", Told.tell(x, "n;"), 1);
      due("all LEFT", x.count(2), WHOLE);
      due("BITES", x.count(1), 0);
      due("HEIRS", x.count(0), 1);
      due("of all LEFT", Told.tell(x, "n;"), 1);
    });
  }

  private void faults() {
    says(TERMS, "kind 1 the place of the first letter with which no CORE can go on", () -> {
      for (int letter = 0; letter < 256; letter++) {
        boolean begins = "hblrn".indexOf(letter) >= 0;
        due("first " + letter, core("" + (char) letter), begins ? -1001 : -1000);
        due("second " + letter, core("n" + (char) letter), letter == ';' ? 1 : -1001);
        due("third " + letter, core("n;" + (char) letter), begins ? -1003 : -1002);
      }
      due("the first of two", core("n;xx"), -1002);
      due("as far back as it can be", core("n;".repeat(47) + "nx"), -1095);
    });
    says(TERMS, "(the end, if something lacks): -1000 less the place", () -> {
      String text = "hn0;b000;l00;r1;n;";
      for (int end = 0; end <= text.length(); end++) {
        String told = text.substring(0, end);
        boolean whole = end > 0 && told.charAt(end - 1) == ';';
        int statements = told.length() - told.replace(";", "").length();
        due(told, core(told), whole ? statements : -1000 - end);
      }
    });
    says(TERMS, "else kind 2 the place of the first letter of the first STATEMENT", () -> {
      due("kind 1 is looked for in all of it first", core("b400;b00;"), -1008);
      due("what lacks too", core("b400;n"), -1006);
      due("a sixth heir ahead of it", core("hn0;".repeat(6) + "x"), -1024);
      due("the first of two", core("n;b400;l25;"), -2002);
      due("the last", core("n;".repeat(45) + "r9;"), -2090);
    });
    says(TERMS, "that, behind all ahead of it in the text, is not as it must be", () -> {
      due("bitten ahead of it", core("b000;b000;"), -2005);
      due("LEFT again ahead of it", core("b000;l00;b000;"), 3);
      due("all LEFT again ahead of it", core("b000;n;b000;"), 3);
      due("turned ahead of it", core("b000;r1;b000;"), 3);
      due("turned ahead of it", core("b000;r1;b004;"), -2008);
      CoresAreWills x = of("hn0;hn0;hn0;", "ooooo ooooo ooooo ooooo oooo.");
      due("bitten ahead of the text", Told.tell(x, "b024;"), -2000);
      due("room ahead of the text", Told.tell(x, "hn0;hn0;hn0;"), -2008);
      due("room ahead of the text", Told.tell(x, "hn0;hn0;b024;"), -2008);
      due("room for two", Told.tell(x, "hn0;hn0;"), 2);
    });
    says(TERMS, "(a number out of range, a BITE that can not be, no room for more)", () -> {
      due("SHAPE", core("n;b400;"), -2002);
      due("CELL", core("n;b025;"), -2002);
      due("CELL", core("n;l25;"), -2002);
      due("QUARTERS", core("n;r0;"), -2002);
      due("QUARTERS", core("n;r4;"), -2002);
      due("over the right border", core("n;b104;"), -2002);
      due("over the lower border", core("n;b220;"), -2002);
      due("over the corner", core("n;b324;"), -2002);
      due("one not LEFT", core("b006;b300;"), -2005);
      due("no room", core("hn0;".repeat(6)), -2020);
    });
    says(TERMS, "Without FAULT all of it comes, with one nothing", () -> {
      String[] texts = {"hk9;b300;r1;b312;x", "hk9;b300;r1;b303;b312;", "b300;r1;n;hk9;b018;r"};
      for (String text : texts) {
        CoresAreWills x = of("hn3;he4;", "oo.oo ooooo ooooo ooooo ooooo");
        String before = Told.seen(x);
        int fault = Told.tell(x, text);
        due(text + " has a FAULT", fault < -999 ? 1 : 0, 1);
        due(text + " changes nothing", Told.seen(x).equals(before) ? 1 : 0, 1);
        due("the letters are no more", x.count(7), 0);
        for (int refused : Told.refusals(x)) due("nothing is counted", refused, 0);
      }
      CoresAreWills x = of("hn3;", "oo.oo ooooo ooooo ooooo ooooo");
      due("without FAULT", Told.tell(x, "hk9;b300;r1;"), 3);
      due("LEFT", x.count(2), Told.left("ooo.. ooo.. oooo. ooooo ooooo"));
      due("BITES", x.count(1), 2);
      due("HEIRS", x.count(0), 2);
    });
  }

  // ---- PIECES, THE DEED, KINDS

  private void pieces() {
    says(TERMS, "PIECES: heaps of CELLS LEFT that hang together by BESIDE ones", () -> {
      due("corners", of("", "o.o.o .o.o. o.o.o .o.o. o.o.o").pieces(0), 13);
      due("across the borders", of("", "....o o.... ....o o.... .....").pieces(0), 4);
      due("top and bottom", of("", "ooooo ..... ..... ..... ooooo").pieces(0), 2);
      due("a long way", of("", "ooooo ....o ooooo o.... ooooo").pieces(0), 1);
      due("a coil", of("", "ooooo ....o ooo.o o...o ooooo").pieces(0), 1);
      due("its cells", of("", "ooooo ....o ooo.o o...o ooooo").cell(12, 2), 17);
      due("none", of("", NONE).pieces(0), 0);
    });
    says(TERMS, "THE DEED: the PIECE with most CELLS", () -> {
      CoresAreWills x = of("", "oo.oo ..... ooo.. ..... oo.oo");
      due("PIECES", x.pieces(0), 5);
      due("its least CELL", x.pieces(2), 10);
      due("its CELLS", x.pieces(3), 3);
      due("of one CELL", of("", "..... ..... ..... ..... ....o").pieces(2), 24);
    });
    says(TERMS, "in CHANCERY, if several have as many (or nothing is LEFT)", () -> {
      String[] settled = {ALL, "o.... ..... ..... ..... .....", "oo.o. ..... ..... ..... o...o"};
      String[] not = {HALVES, NONE, "o...o ..... ..... ..... .....", "oo.oo ..... o.... ..... ....."};
      for (String picture : settled) due(picture, of("", picture).count(5), 0);
      for (String picture : not) {
        due(picture, of("", picture).count(5), 1);
        due(picture, of("", picture).pieces(2), -9);
        due(picture, of("", picture).pieces(3), -9);
      }
    });
  }

  private void shares(String kind, String picture, int... due) {
    for (int figure = 0; figure < due.length; figure++) {
      due(kind + figure + " of " + picture,
          of("h" + kind + figure + ";", picture).heir(0, 2), due[figure]);
    }
  }

  private void kinds() {
    // Columns of 5, 4, 3, 2, 1 cells, the STALK and two PIPS, 10 not LEFT.
    String stairs = "ooooo oooo. ooo.. oo... o....";
    // The STALK and the PIPS are LEFT, but not of THE DEED, the lowest row.
    String apart = "..o.. ..... .ooo. ..... ooooo";
    says(TERMS, "SHARE (of THE DEED alone; in CHANCERY 0, of a LAWYER FIGURE)", () -> {
      for (String picture : new String[] {HALVES, NONE, "o.o.o ..... .o.o. ..... o...o"}) {
        for (String kind : new String[] {"n", "e", "w", "p", "k"}) {
          shares(kind, picture, 0, 0, 0, 0, 0, 0, 0, 0, 0, 0);
        }
        shares("l", picture, 0, 1, 2, 3, 4, 5, 6, 7, 8, 9);
      }
      shares("n", "oooo. ..... ..... ....o ....o", 1, 1, 1, 1, 0);
    });
    says(TERMS, "its CELLS in column FIGURE modulo 5",
        () -> shares("n", stairs, 5, 4, 3, 2, 1, 5, 4, 3, 2, 1));
    says(TERMS, "5 more, if the STALK is of it", () -> {
      shares("e", stairs, 10, 9, 8, 7, 6, 10, 9, 8, 7, 6);
      shares("e", apart, 1, 1, 1, 1, 1, 1, 1, 1, 1, 1);
      shares("e", "oo.oo ooooo ooooo ooooo ooooo", 5, 5, 4, 5, 5);
      due("the STALK is LEFT", of("", apart).pips(1), 1);
    });
    says(TERMS, "w WIDOW under NEPHEW: half, cut, and twice its PIPS", () -> {
      shares("w", stairs, 6, 6, 5, 5, 4, 6, 6, 5, 5, 4);
      shares("w", apart, 0, 0, 0, 0, 0);
      shares("w", "..... ..... .o... ..... .....", 2, 2, 2, 2, 2);
      shares("w", "..... ..... ...oo ..... .....", 2, 2, 2, 2, 2);
      due("the PIPS are LEFT", of("", apart).pips(0), 3);
    });
    says(TERMS, "l LAWYER under ELDER: a third, cut, of an ELDER's", () -> {
      shares("l", stairs, 3, 3, 2, 2, 2, 3, 3, 2, 2, 2);
      shares("l", apart, 0, 0, 0, 0, 0);
      shares("l", "..... ..... ooooo ooooo ooooo", 1, 1, 1, 1, 1, 1, 1, 1, 1, 1);
      shares("l", "..... ..... ..... ooooo ooooo", 0, 0, 0, 0, 0);
    });
    says(TERMS, "how many CELLS are not LEFT, less FIGURE (0 at least)", () -> {
      for (int figure = 0; figure < 10; figure++) {
        CoresAreWills x = of("hp" + figure + ";", ALL);
        for (int gone = 0; gone < 25; gone++) {
          due(gone + " less " + figure, x.heir(0, 2), Math.max(0, gone - figure));
          x.bites(0, 24 - gone);
        }
        due("in CHANCERY", x.heir(0, 2), 0);
      }
    });
    says(TERMS, "k KITCHEN under WIDOW: 1 more for each PIECE but one", () -> {
      shares("k", stairs, 6, 6, 5, 5, 4, 6, 6, 5, 5, 4);
      shares("k", apart, 2, 2, 2, 2, 2);
      shares("k", "oo... ..... o.o.o ..... o.o.o", 6, 6, 6, 6, 6);
    });
  }
}
