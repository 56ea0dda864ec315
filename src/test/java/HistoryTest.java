/** What a call answers rests on the core as it stands, not on what was asked or bitten before. */
public final class HistoryTest {
  private static final String HEIRS = "hn4;hp2;hk0;hl9;he2;";
  private static final String[] PICTURES = {
    Sentences.ALL, Sentences.NONE, Sentences.HALVES, "..... ..... ..... ..... ....o",
    "o...o ..... ..o.. ..... o...o", "ooooo o...o o.o.o o...o ooooo", "ooooo oooo. ooo.. oo... o....",
    "..... ..... ..... ....o ...oo", "o.ooo ooooo .o.oo ooooo oo.oo"
  };

  public static void main(String[] args) {
    Checks checks = new Checks("HistoryTest");
    for (String before : PICTURES) {
      for (String now : PICTURES) {
        CoresAreWills x = Told.of(HEIRS, before);
        x.row(3);
        String first = asked(x);
        checks.holds(before + " asked twice", first.equals(asked(x)));
        x.anew();
        int left = Told.left(now);
        for (int cell = 0; cell < 25; cell++) if ((left >> cell) % 2 == 0) x.bites(0, cell);
        CoresAreWills y = Told.of(HEIRS, now);
        y.row(3);
        checks.holds(now + " behind " + before, asked(x).equals(asked(y)));
      }
    }
    checks.ends();
  }

  private static String asked(CoresAreWills x) {
    StringBuilder asked = new StringBuilder();
    for (int what = 0; what < 2; what++) {
      long[] answers = {
        x.shares(what), x.edge(what), x.ways(what), x.alike(what), x.settles(what), x.pips(what),
        x.mean(what), x.lots(3, 5, what), x.best(0, what), x.worst(1, what), x.fewest(2, 9, what),
        x.chance(3, 2, 5, what), x.whatIs(4, what), x.pieces(what), x.pieces(what + 2),
        x.bridge(what), x.bridge(2 * what), x.cell(24, what), x.cell(24, 2 * what), x.can(what - 1),
        x.grudge(what), x.gain(what, 3), x.gain(3, what), x.two(what, 4), x.two(4, what),
        x.heir(what, 2), x.heir(what + 2, 2), x.count(what + 2), x.count(what + 4), x.safe()
      };
      for (long answer : answers) asked.append(answer).append(' ');
    }
    return asked.toString();
  }
}
