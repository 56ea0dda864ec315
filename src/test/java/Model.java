import java.util.ArrayList;
import java.util.HashMap;
import java.util.List;
import java.util.Map;
import java.util.TreeSet;
import java.util.regex.Matcher;
import java.util.regex.Pattern;

/**
 * The document told a second time, slowly and by other means (sets of cells as flags, regular
 * expressions, plain enumeration), to be compared with the program call by call.
 */
final class Model {
  private static final Pattern CORE =
      Pattern.compile("(h[newlpk][0-9];|b[0-9][0-9][0-9];|l[0-9][0-9];|r[0-9];|n;)+");
  private static final int[][] STEPS = {{-1, 0}, {0, -1}, {0, 1}, {1, 0}};

  /** A core as it stands. */
  private static final class State {
    boolean[] left = new boolean[25];
    int bites = 0;
    List<int[]> heirs = new ArrayList<>();

    State() {
      java.util.Arrays.fill(left, true);
    }

    State(State other) {
      left = other.left.clone();
      bites = other.bites;
      for (int[] heir : other.heirs) heirs.add(heir.clone());
    }
  }

  private State s = new State();
  private State image = null;
  private String letters = "";
  private List<Integer> row = new ArrayList<>();
  private final int[] refused = new int[7];

  // ---- sets of cells

  private static List<List<Integer>> heaps(boolean[] cells) {
    List<List<Integer>> heaps = new ArrayList<>();
    boolean[] seen = new boolean[25];
    for (int c = 0; c < 25; c++) {
      if (!cells[c] || seen[c]) continue;
      List<Integer> heap = new ArrayList<>();
      spread(c, cells, seen, heap);
      heaps.add(heap);
    }
    return heaps;
  }

  private static void spread(int c, boolean[] cells, boolean[] seen, List<Integer> heap) {
    seen[c] = true;
    heap.add(c);
    for (int n : beside(c)) if (cells[n] && !seen[n]) spread(n, cells, seen, heap);
  }

  private static List<Integer> beside(int c) {
    List<Integer> found = new ArrayList<>();
    for (int[] step : STEPS) {
      int r = c / 5 + step[0];
      int k = c % 5 + step[1];
      if (r >= 0 && r < 5 && k >= 0 && k < 5) found.add(5 * r + k);
    }
    return found;
  }

  /** The cells of a bite, or null if one is not there. */
  private static List<Integer> of(int shape, int cell) {
    int height = shape == 2 || shape == 3 ? 2 : 1;
    int width = shape == 1 || shape == 3 ? 2 : 1;
    List<Integer> cells = new ArrayList<>();
    for (int r = 0; r < height; r++) {
      for (int k = 0; k < width; k++) {
        if (cell / 5 + r > 4 || cell % 5 + k > 4) return null;
        cells.add(cell + 5 * r + k);
      }
    }
    return cells;
  }

  /** What is left behind a bite, or null if it can not be. */
  private static boolean[] behind(boolean[] left, int shape, int cell) {
    List<Integer> cells = of(shape, cell);
    if (cells == null) return null;
    boolean[] rest = left.clone();
    for (int c : cells) {
      if (!left[c]) return null;
      rest[c] = false;
    }
    return rest;
  }

  private static boolean[] without(boolean[] left, int cell) {
    boolean[] rest = left.clone();
    rest[cell] = false;
    return rest;
  }

  private static int many(boolean[] cells) {
    int n = 0;
    for (boolean b : cells) if (b) n++;
    return n;
  }

  private static int bits(boolean[] cells) {
    int bits = 0;
    for (int c = 0; c < 25; c++) if (cells[c]) bits += 1 << c;
    return bits;
  }

  private static boolean[] quarter(boolean[] left) {
    boolean[] turned = new boolean[25];
    for (int r = 0; r < 5; r++) for (int c = 0; c < 5; c++) turned[c * 5 + 4 - r] = left[5 * r + c];
    return turned;
  }

  // ---- shares

  private static final Map<Integer, List<List<Integer>>> KNOWN = new HashMap<>();

  private static List<List<Integer>> piecesOf(boolean[] left) {
    return KNOWN.computeIfAbsent(bits(left), k -> heaps(left));
  }

  private static List<Integer> deed(boolean[] left) {
    int most = 0;
    for (List<Integer> piece : piecesOf(left)) most = Math.max(most, piece.size());
    List<Integer> deed = null;
    for (List<Integer> piece : piecesOf(left)) {
      if (piece.size() < most) continue;
      if (deed != null) return null;
      deed = piece;
    }
    return deed;
  }

  private static int share(boolean[] left, int kind, int figure) {
    List<Integer> deed = deed(left);
    if (deed == null) return kind == 3 ? figure : 0;
    int nephew = 0;
    int pips = 0;
    for (int c : deed) {
      if (c % 5 == figure % 5) nephew++;
      if (c >= 11 && c <= 13) pips++;
    }
    int elder = deed.contains(2) ? nephew + 5 : nephew;
    int widow = nephew / 2 + pips * 2;
    int gone = 25 - many(left);
    int pig = gone > figure ? gone - figure : 0;
    return new int[] {nephew, elder, widow, elder / 3, pig, widow + piecesOf(left).size() - 1}[kind];
  }

  private int share(boolean[] left, int heir) {
    return share(left, s.heirs.get(heir)[0], s.heirs.get(heir)[1]);
  }

  private int sum(boolean[] left) {
    int sum = 0;
    for (int h = 0; h < s.heirs.size(); h++) sum += share(left, h);
    return sum;
  }

  // ---- refusals

  private int no(int which) {
    refused[-which]++;
    return which;
  }

  private boolean nobody(int heir) {
    return heir < 0 || heir >= s.heirs.size();
  }

  private static boolean off(int what, int most) {
    return what < 0 || what > most;
  }

  // ---- the calls

  int letter(int c) {
    if (c < 0) return no(-4);
    if (c > 255 || letters.length() == 96) return no(-6);
    letters += (char) c;
    return letters.length();
  }

  int core() {
    String text = letters;
    letters = "";
    for (int end = 1; end <= text.length(); end++) {
      Matcher m = CORE.matcher(text.substring(0, end));
      if (!m.matches() && !m.hitEnd()) return -1000 - (end - 1);
    }
    if (!CORE.matcher(text).matches()) return -1000 - text.length();
    State t = new State(s);
    int place = 0;
    String[] statements = text.split(";");
    for (String statement : statements) {
      if (!does(t, statement)) return -2000 - place;
      place += statement.length() + 1;
    }
    s = t;
    return statements.length;
  }

  private static boolean does(State t, String statement) {
    String rest = statement.substring(1);
    switch (statement.charAt(0)) {
      case 'h':
        if (t.heirs.size() == 5) return false;
        t.heirs.add(new int[] {"newlpk".indexOf(rest.charAt(0)), rest.charAt(1) - '0'});
        return true;
      case 'b':
        int shape = rest.charAt(0) - '0';
        int at = Integer.parseInt(rest.substring(1));
        if (shape > 3 || at > 24 || behind(t.left, shape, at) == null) return false;
        t.left = behind(t.left, shape, at);
        t.bites++;
        return true;
      case 'l':
        int cell = Integer.parseInt(rest);
        if (cell > 24) return false;
        t.left[cell] = true;
        return true;
      case 'r':
        int quarters = Integer.parseInt(rest);
        if (quarters < 1 || quarters > 3) return false;
        for (int q = 0; q < quarters; q++) t.left = quarter(t.left);
        return true;
      default:
        java.util.Arrays.fill(t.left, true);
        t.bites = 0;
        return true;
    }
  }

  int cell(int cell, int what) {
    if (off(cell, 24)) return no(-1);
    if (off(what, 2)) return no(-2);
    if (what == 0) return s.left[cell] ? 1 : 0;
    if (what == 1) {
      int n = 0;
      for (int b : beside(cell)) if (s.left[b]) n++;
      return n;
    }
    for (List<Integer> piece : piecesOf(s.left)) if (piece.contains(cell)) return piece.size();
    return 0;
  }

  int heir(int heir, int what) {
    if (nobody(heir)) return no(-1);
    if (off(what, 2)) return no(-2);
    return what == 2 ? share(s.left, heir) : s.heirs.get(heir)[what];
  }

  int bites(int shape, int cell) {
    if (off(shape, 3)) return no(-2);
    if (off(cell, 24)) return no(-1);
    boolean[] rest = behind(s.left, shape, cell);
    if (rest == null) return no(-3);
    s.left = rest;
    s.bites++;
    return many(rest);
  }

  int heals(int cell) {
    if (off(cell, 24)) return no(-1);
    if (s.left[cell]) return no(-3);
    s.left[cell] = true;
    return many(s.left);
  }

  int rolls(int quarters) {
    if (quarters < 1) return no(-4);
    if (quarters > 3) return no(-6);
    for (int q = 0; q < quarters; q++) s.left = quarter(s.left);
    return many(s.left);
  }

  int turn(int heir, int kind, int figure) {
    if (nobody(heir)) return no(-1);
    if (off(kind, 5)) return no(-2);
    if (figure < 0) return no(-4);
    if (figure > 9) return no(-6);
    int[] was = s.heirs.set(heir, new int[] {kind, figure});
    return was[0] * 10 + was[1];
  }

  int anew() {
    int had = s.bites;
    java.util.Arrays.fill(s.left, true);
    s.bites = 0;
    return had;
  }

  int shares(int what) {
    if (off(what, 1)) return no(-2);
    if (what == 0) return sum(s.left);
    int richest = -9;
    for (int h = s.heirs.size() - 1; h >= 0; h--) {
      if (richest < 0 || share(s.left, h) >= share(s.left, richest)) richest = h;
    }
    return richest;
  }

  int pieces(int what) {
    if (off(what, 3)) return no(-2);
    if (what == 0) return piecesOf(s.left).size();
    if (what == 1) return piecesOf(s.left).stream().mapToInt(List::size).min().orElse(0);
    List<Integer> deed = deed(s.left);
    if (deed == null) return -9;
    return what == 3 ? deed.size() : deed.stream().mapToInt(c -> c).min().orElse(-1);
  }

  int edge(int what) {
    if (off(what, 1)) return no(-2);
    if (what == 0) {
      int sides = 0;
      for (int c = 0; c < 25; c++) {
        if (!s.left[c]) continue;
        sides += 4;
        for (int b : beside(c)) if (s.left[b]) sides--;
      }
      return sides;
    }
    boolean[] gone = new boolean[25];
    for (int c = 0; c < 25; c++) gone[c] = !s.left[c];
    int holes = 0;
    for (List<Integer> heap : heaps(gone)) {
      boolean inside = true;
      for (int c : heap) if (beside(c).size() < 4) inside = false;
      if (inside) holes++;
    }
    return holes;
  }

  /** The bite (100 times shape and cell) that is furthest up or down, or -9. */
  private int furthest(boolean[] left, int heir, boolean up) {
    int found = -9;
    int now = share(left, heir);
    for (int shape = 0; shape < 4; shape++) {
      for (int cell = 0; cell < 25; cell++) {
        boolean[] rest = behind(left, shape, cell);
        if (rest == null) continue;
        int then = share(rest, heir);
        if (up ? then > now : then < now) {
          now = then;
          found = 100 * shape + cell;
        }
      }
    }
    return found;
  }

  private int told(int bite, int heir, int what) {
    if (bite < 0) return -9;
    return what == 0 ? bite : share(behind(s.left, bite / 100, bite % 100), heir);
  }

  int best(int heir, int what) {
    if (nobody(heir)) return no(-1);
    if (off(what, 1)) return no(-2);
    return told(furthest(s.left, heir, true), heir, what);
  }

  int worst(int heir, int what) {
    if (nobody(heir)) return no(-1);
    if (off(what, 1)) return no(-2);
    return told(furthest(s.left, heir, false), heir, what);
  }

  private boolean reaches(boolean[] left, int heir, int v, int more) {
    if (more == 0) return share(left, heir) >= v;
    for (int i = 0; i < 100; i++) {
      boolean[] rest = behind(left, i / 25, i % 25);
      if (rest != null && reaches(rest, heir, v, more - 1)) return true;
    }
    return false;
  }

  int fewest(int heir, int v, int what) {
    if (nobody(heir)) return no(-1);
    if (v < 0) return no(-4);
    if (v > 40) return no(-6);
    if (off(what, 1)) return no(-2);
    for (int n = 0; n <= 2; n++) {
      if (!reaches(s.left, heir, v, n)) continue;
      if (what == 0) return n;
      if (n == 0) return -9;
      for (int i = 0; i < 100; i++) {
        boolean[] rest = behind(s.left, i / 25, i % 25);
        if (rest != null && reaches(rest, heir, v, n - 1)) return i / 25 * 100 + i % 25;
      }
    }
    return -9;
  }

  int safe() {
    int n = 0;
    for (int i = 0; i < 100; i++) {
      boolean[] rest = behind(s.left, i / 25, i % 25);
      if (rest == null) continue;
      boolean same = true;
      for (int h = 0; h < s.heirs.size(); h++) same &= share(rest, h) == share(s.left, h);
      if (same) n++;
    }
    return n;
  }

  int can(int shape) {
    if (shape < -1 || shape > 3) return no(-2);
    int n = 0;
    for (int i = 0; i < 100; i++) {
      if ((shape == -1 || i / 25 == shape) && behind(s.left, i / 25, i % 25) != null) n++;
    }
    return n;
  }

  /** Ways and the fewest bites to make up these cells. */
  private static int[] madeUp(boolean[] gone, Map<Integer, int[]> known) {
    int first = 0;
    while (first < 25 && !gone[first]) first++;
    if (first == 25) return new int[] {1, 0};
    int[] found = known.get(bits(gone));
    if (found != null) return found;
    found = new int[] {0, 99};
    for (int shape = 0; shape < 4; shape++) {
      boolean[] rest = behind(gone, shape, first);
      if (rest == null) continue;
      int[] then = madeUp(rest, known);
      found[0] = (found[0] + then[0]) % 1000003;
      found[1] = Math.min(found[1], then[1] + 1);
    }
    known.put(bits(gone), found);
    return found;
  }

  int ways(int what) {
    if (off(what, 1)) return no(-2);
    boolean[] gone = new boolean[25];
    for (int c = 0; c < 25; c++) gone[c] = !s.left[c];
    return madeUp(gone, new HashMap<>())[what];
  }

  int alike(int what) {
    if (off(what, 1)) return no(-2);
    TreeSet<Integer> cores = new TreeSet<>();
    boolean[] left = s.left;
    for (int q = 0; q < 4; q++) {
      left = quarter(left);
      cores.add(bits(left));
    }
    return what == 0 ? cores.size() : cores.first();
  }

  int settles(int what) {
    if (off(what, 1)) return no(-2);
    if (deed(s.left) != null) return what == 0 ? 0 : -9;
    for (int a = 0; a < 25; a++) {
      if (s.left[a] && deed(without(s.left, a)) != null) return what == 0 ? 1 : a;
    }
    for (int a = 0; a < 25; a++) {
      for (int b = a + 1; b < 25; b++) {
        if (!s.left[a] || !s.left[b]) continue;
        if (deed(without(without(s.left, a), b)) != null) return what == 0 ? 2 : a;
      }
    }
    return -9;
  }

  int pips(int what) {
    if (off(what, 1)) return no(-2);
    if (what == 1) return s.left[2] ? 1 : 0;
    return (s.left[11] ? 1 : 0) + (s.left[12] ? 1 : 0) + (s.left[13] ? 1 : 0);
  }

  int grudge(int heir) {
    if (nobody(heir)) return no(-1);
    int found = -9;
    int least = 1000;
    for (int h = 0; h < s.heirs.size(); h++) {
      int bite = h == heir ? -9 : furthest(s.left, h, true);
      if (bite == -9) continue;
      int share = share(behind(s.left, bite / 100, bite % 100), heir);
      if (share < least) {
        least = share;
        found = h;
      }
    }
    return found;
  }

  int gain(int one, int other) {
    if (nobody(one) || nobody(other) || one == other) return 1000000000 - no(-1);
    int bite = furthest(s.left, one, true);
    if (bite == -9) return 0;
    return share(behind(s.left, bite / 100, bite % 100), other) - share(s.left, other);
  }

  int join(int cell) {
    if (off(cell, 24)) return no(-1);
    if (s.left[cell]) return no(-3);
    boolean[] more = s.left.clone();
    more[cell] = true;
    return heaps(more).size();
  }

  int bridge(int what) {
    if (off(what, 2)) return no(-2);
    int n = 0;
    int least = -9;
    int middle = -9;
    int fewest = 100000;
    for (int c = 24; c >= 0; c--) {
      if (!s.left[c]) continue;
      if (piecesOf(without(s.left, c)).size() > piecesOf(s.left).size()) {
        n++;
        least = c;
      }
      int steps = 0;
      for (int d = 0; d < 25; d++) {
        if (s.left[d]) steps += Math.abs(c / 5 - d / 5) + Math.abs(c % 5 - d % 5);
      }
      if (steps <= fewest) {
        fewest = steps;
        middle = c;
      }
    }
    return new int[] {n, least, middle}[what];
  }

  private boolean[] choice(boolean[] left, int heir, int choice) {
    if (choice == 0) {
      int bite = furthest(left, heir, true);
      return bite == -9 ? left : behind(left, bite / 100, bite % 100);
    }
    for (int i = 0; i < 100; i++) {
      boolean[] rest = behind(left, i / 25, i % 25);
      if (rest != null) return rest;
    }
    return left;
  }

  int two(int a, int b) {
    if (nobody(a) || nobody(b) || a == b) return no(-1);
    int[][] first = new int[2][2];
    int[][] second = new int[2][2];
    for (int i = 0; i < 2; i++) {
      for (int j = 0; j < 2; j++) {
        boolean[] end = choice(choice(s.left, a, i), b, j);
        first[i][j] = share(end, a);
        second[i][j] = share(end, b);
      }
    }
    for (int i = 0; i < 2; i++) {
      for (int j = 0; j < 2; j++) {
        if (first[1 - i][j] <= first[i][j] && second[i][1 - j] <= second[i][j]) return 10 * i + j;
      }
    }
    return -9;
  }

  private static long fraction(long above, long below, int part) {
    for (long d = below; d > 1; d--) {
      if (above % d == 0 && below % d == 0) return part == 0 ? above / d : below / d;
    }
    return part == 0 ? above : below;
  }

  /** Of how many equally likely runs of n bites one has enough, and how many there are. */
  private long[] runs(boolean[] left, int heir, int n, int v) {
    if (n == 0 || many(left) == 0) return new long[] {share(left, heir) >= v ? 1 : 0, 1};
    long[] all = new long[2];
    for (int c = 0; c < 25; c++) {
      if (!left[c]) continue;
      long[] then = runs(without(left, c), heir, n - 1, v);
      all[0] += then[0];
      all[1] += then[1];
    }
    return all;
  }

  long chance(int heir, int n, int v, int part) {
    if (nobody(heir)) return 4000000000000000000L - no(-1);
    if (n < 0 || v < 0) return 4000000000000000000L - no(-4);
    if (n > 2 || v > 40) return 4000000000000000000L - no(-6);
    if (off(part, 1)) return 4000000000000000000L - no(-2);
    long[] all = runs(s.left, heir, n, v);
    return fraction(all[0], all[1], part);
  }

  long mean(int part) {
    if (off(part, 1)) return 4000000000000000000L - no(-2);
    return s.heirs.isEmpty() ? part : fraction(sum(s.left), s.heirs.size(), part);
  }

  int whatIs(int heir, int what) {
    if (nobody(heir)) return no(-1);
    if (off(what, 1)) return no(-2);
    int found = 0;
    for (int k = 0; k < (what == 0 ? 6 : 10); k++) {
      boolean so = true;
      for (int i = 0; i < row.size(); i++) {
        boolean[] then = i == 0 ? s.left : without(s.left, i - 1);
        int kind = what == 0 ? k : s.heirs.get(heir)[0];
        int figure = what == 1 ? k : s.heirs.get(heir)[1];
        so &= share(then, kind, figure) == row.get(i);
      }
      if (so) found += 1 << k;
    }
    return found;
  }

  int row(int v) {
    if (v < 0) return no(-4);
    if (v > 99 || row.size() == 16) return no(-6);
    row.add(v);
    return row.size();
  }

  int judge() {
    int wrong = -9;
    for (int i = row.size() - 1; i >= 0; i--) {
      if (nobody(i) || share(s.left, i) != row.get(i)) wrong = i;
    }
    row.clear();
    return wrong;
  }

  int clear() {
    int had = row.size();
    row.clear();
    return had;
  }

  int lots(int n, int z, int what) {
    if (n < 1) return no(-4);
    if (n > 20) return no(-6);
    if (off(what, 1)) return no(-2);
    long seed = z;
    int sum = 0;
    int chancery = 0;
    for (int i = 0; i < n; i++) {
      boolean[] left = s.left;
      for (int t = 0; t < 6; t++) {
        seed = Math.floorMod(seed * 1664525L + 1013904223L, 1L << 32);
        int shape = (int) (seed % (1L << 31) / 256 % 4);
        seed = Math.floorMod(seed * 1664525L + 1013904223L, 1L << 32);
        int cell = (int) (seed % (1L << 31) / 256 % 25);
        boolean[] rest = behind(left, shape, cell);
        if (rest != null) left = rest;
      }
      sum += sum(left);
      if (deed(left) == null) chancery++;
    }
    return what == 0 ? sum : chancery;
  }

  int image() {
    image = new State(s);
    return s.bites;
  }

  int on() {
    if (image == null) return no(-3);
    s = new State(image);
    return s.bites;
  }

  int count(int what) {
    if (what >= 11 && what <= 16) return refused[what - 10];
    if (what < 0 || what > 7) return -9;
    return new int[] {
      s.heirs.size(), s.bites, bits(s.left), many(s.left), sum(s.left),
      deed(s.left) == null ? 1 : 0, row.size(), letters.length()
    }[what];
  }
}
