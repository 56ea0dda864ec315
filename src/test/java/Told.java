/** Objects made ready for a test: told by a text, or by a text and a picture of what is LEFT. */
final class Told {
  static final int WHOLE = 33554431;
  static final int MIN = Integer.MIN_VALUE;
  static final int MAX = Integer.MAX_VALUE;

  /** Two pieces of ten: rows 0, 1 and rows 3, 4. */
  static final String HALVES = "b110;b112;b014;";
  static final int HALVES_LEFT = WHOLE - (31 << 10);
  /** Rows 0 .. 2 are THE DEED, row 4 is a piece of five. */
  static final String SHELF = "b115;b117;b019;";
  /** The STALK alone is a piece of one, the deed has 21 cells. */
  static final String CUT = "b001;b003;b007;";
  /** Nothing is LEFT, by 9 bites. */
  static final String EATEN = "b300;b302;b310;b312;b204;b214;b120;b122;b024;";

  private Told() {}

  static void letters(CoresAreWills x, String text) {
    for (int i = 0; i < text.length(); i++) x.letter(text.charAt(i));
  }

  static int tell(CoresAreWills x, String text) {
    letters(x, text);
    return x.core();
  }

  static CoresAreWills of(String text) {
    CoresAreWills x = new CoresAreWills();
    if (tell(x, text) < 0) throw new IllegalArgumentException(text);
    return x;
  }

  /** Heirs told as a text (or none), and a core of five rows with a blank between, o is LEFT. */
  static CoresAreWills of(String heirs, String picture) {
    CoresAreWills x = heirs.isEmpty() ? new CoresAreWills() : of(heirs);
    int left = left(picture);
    for (int cell = 0; cell < 25; cell++) {
      if ((left >> cell) % 2 == 0) x.bites(0, cell);
    }
    return x;
  }

  static int left(String picture) {
    String cells = picture.replace(" ", "");
    if (cells.length() != 25) throw new IllegalArgumentException(picture);
    int left = 0;
    for (int cell = 0; cell < 25; cell++) if (cells.charAt(cell) == 'o') left += 1 << cell;
    return left;
  }

  static int[] refusals(CoresAreWills x) {
    int[] counted = new int[6];
    for (int i = 0; i < 6; i++) counted[i] = x.count(11 + i);
    return counted;
  }

  /** All that can be seen of an object without changing it. */
  static String seen(CoresAreWills x) {
    StringBuilder seen = new StringBuilder();
    for (int what = 0; what < 8; what++) seen.append(x.count(what)).append(' ');
    for (int heir = 0; heir < x.count(0); heir++) {
      seen.append(x.heir(heir, 0)).append(x.heir(heir, 1)).append(' ');
    }
    return seen.toString();
  }

  /** What is inside, too: the row, the letters, the image. The object is used up by it. */
  static String inside(CoresAreWills x) {
    String before = seen(x) + "judge " + x.judge() + " core " + x.core() + " " + seen(x);
    return before + "on " + x.on() + " " + seen(x);
  }
}
