/**
 * A core of 25 cells as a will: it is told in letters and bitten by shapes, and heirs of kinds have
 * by law what it leaves them.
 *
 * <p>Sets of cells are bits 0 .. 24 of an int. Inside, a bite is one number, 25 times its shape and
 * its cell, so that counting up goes by shapes, then by cells, as the document's "first" does. All
 * rows are made by the constructor; no call makes an object.
 */
public final class CoresAreWills {

  private static final int SIDE = 5;
  private static final int CELLS = 25;
  private static final int WHOLE = 33554431;
  private static final int FIRST_COLUMN = 1082401;
  private static final int LAST_COLUMN = 17318416;
  private static final int BORDER = 33080895;
  private static final int STALK = 4;
  private static final int PIPS = 14336;

  private static final int SHAPES = 4;
  private static final int BITES = 100;
  private static final int MOST_BITES = 999;
  private static final int MOST_HEIRS = 5;
  private static final int MOST_LETTER = 255;
  private static final int MOST_LETTERS = 96;
  private static final int MOST_IN_ROW = 16;
  private static final int MOST_TOLD = 99;
  private static final int MOST_SHARE_ASKED = 40;
  private static final int MOST_LOTS = 20;
  private static final int BITES_BY_LOT = 6;

  private static final int NEPHEW = 0;
  private static final int ELDER = 1;
  private static final int WIDOW = 2;
  private static final int LAWYER = 3;
  private static final int PIG = 4;
  private static final int KITCHEN = 5;
  private static final int KINDS = 6;
  private static final int FIGURES = 10;

  private static final int NONE = -9;
  private static final int NO_BITE = -1;
  private static final int NO_FAULT = -1;

  private static final int NOBODY = -1;
  private static final int OTHER = -2;
  private static final int STATE = -3;
  private static final int BELOW = -4;
  private static final int ROOM = -6;
  private static final int REFUSAL_KINDS = 6;
  private static final int GAIN_REFUSED = 1000000000;
  private static final long LONG_REFUSED = 4000000000000000000L;

  private final Core now = new Core();
  private final Core kept = new Core();
  private final Core trial = new Core();
  private final Reading reading = new Reading();
  private final Cover cover = new Cover();
  private final Text text = new Text();
  private final int[] told = new int[MOST_IN_ROW];
  private final int[] refusals = new int[REFUSAL_KINDS + 1];
  private final int[] ends = new int[4];
  private int tolds;
  private boolean hasImage;

  public CoresAreWills() {}

  // ---- the core itself: promises 2 to 10

  public int letter(int c) {
    if (c < 0) return refused(BELOW);
    if (c > MOST_LETTER || text.length >= MOST_LETTERS) return refused(ROOM);
    return text.takes(c);
  }

  public int core() {
    int answer = trialOfText();
    if (answer >= 0) now.becomes(trial);
    text.length = 0;
    return answer;
  }

  public int cell(int cell, int what) {
    if (!isCell(cell)) return refused(NOBODY);
    if (what < 0 || what > 2) return refused(OTHER);
    int bit = 1 << cell;
    if (what == 0) return (now.left & bit) != 0 ? 1 : 0;
    if (what == 1) return Integer.bitCount(Grid.besides(bit) & now.left);
    return Integer.bitCount(Grid.heapOf(bit, now.left));
  }

  public int heir(int heir, int what) {
    if (!isHeir(heir)) return refused(NOBODY);
    if (what < 0 || what > 2) return refused(OTHER);
    if (what == 0) return now.kinds[heir];
    if (what == 1) return now.figures[heir];
    return shareOf(heir, now.left);
  }

  public int bites(int shape, int cell) {
    if (shape < 0 || shape >= SHAPES) return refused(OTHER);
    if (!isCell(cell)) return refused(NOBODY);
    if (!now.takesBite(shape, cell)) return refused(STATE);
    return Integer.bitCount(now.left);
  }

  public int heals(int cell) {
    if (!isCell(cell)) return refused(NOBODY);
    if (isLeft(cell)) return refused(STATE);
    now.mends(cell);
    return Integer.bitCount(now.left);
  }

  public int rolls(int quarters) {
    if (quarters < 1) return refused(BELOW);
    if (quarters > 3) return refused(ROOM);
    now.turnsBy(quarters);
    return Integer.bitCount(now.left);
  }

  public int turn(int heir, int kind, int figure) {
    if (!isHeir(heir)) return refused(NOBODY);
    if (kind < 0 || kind >= KINDS) return refused(OTHER);
    if (figure < 0) return refused(BELOW);
    if (figure >= FIGURES) return refused(ROOM);
    int before = 10 * now.kinds[heir] + now.figures[heir];
    now.kinds[heir] = kind;
    now.figures[heir] = figure;
    return before;
  }

  public int anew() {
    int before = now.bitten;
    now.renews();
    return before;
  }

  // ---- what each has and what the core is like: promises 11 to 13, 18 to 22, 25, 26

  public int shares(int what) {
    if (!isTwofold(what)) return refused(OTHER);
    return what == 0 ? sharesTogether(now.left) : richest();
  }

  public int pieces(int what) {
    if (what < 0 || what > 3) return refused(OTHER);
    reading.reads(now.left);
    if (what == 0) return reading.heaps;
    if (what == 1) return reading.fewestCells;
    if (reading.isInChancery()) return NONE;
    return what == 2 ? Grid.leastCell(reading.deed) : Integer.bitCount(reading.deed);
  }

  public int edge(int what) {
    if (!isTwofold(what)) return refused(OTHER);
    return what == 0 ? Grid.openSides(now.left) : Grid.holesOf(now.left);
  }

  public int can(int shape) {
    if (shape < -1 || shape >= SHAPES) return refused(OTHER);
    int from = shape < 0 ? 0 : shape * CELLS;
    int to = shape < 0 ? BITES : from + CELLS;
    int possible = 0;
    for (int bite = from; bite < to; bite++) {
      if (Grid.behind(bite, now.left) != now.left) possible++;
    }
    return possible;
  }

  public int ways(int what) {
    if (!isTwofold(what)) return refused(OTHER);
    cover.covers(now.left);
    return what == 0 ? cover.waysDone() : cover.fewDone();
  }

  public int alike(int what) {
    if (!isTwofold(what)) return refused(OTHER);
    int once = Grid.turned(now.left);
    int twice = Grid.turned(once);
    int thrice = Grid.turned(twice);
    if (what == 1) return Math.min(Math.min(now.left, once), Math.min(twice, thrice));
    // A quarter that changes nothing leaves one core, a half that changes nothing leaves two.
    if (once == now.left) return 1;
    return twice == now.left ? 2 : 4;
  }

  public int settles(int what) {
    if (!isTwofold(what)) return refused(OTHER);
    if (isSettled(now.left)) return what == 0 ? 0 : NONE;
    int one = firstCellThatSettles(now.left, 0);
    if (one != NONE) return what == 0 ? 1 : one;
    int two = firstOfTwoThatSettle();
    if (two != NONE) return what == 0 ? 2 : two;
    return NONE;
  }

  public int pips(int what) {
    if (!isTwofold(what)) return refused(OTHER);
    return Integer.bitCount(now.left & (what == 0 ? PIPS : STALK));
  }

  public int join(int cell) {
    if (!isCell(cell)) return refused(NOBODY);
    if (isLeft(cell)) return refused(STATE);
    return Grid.heapsOf(now.left | 1 << cell);
  }

  public int bridge(int what) {
    if (what < 0 || what > 2) return refused(OTHER);
    if (what == 2) return Grid.middleOf(now.left);
    int bridges = bridgesOf(now.left);
    if (what == 0) return Integer.bitCount(bridges);
    return bridges == 0 ? NONE : Grid.leastCell(bridges);
  }

  // ---- bites weighed: promises 14 to 17, 23, 24, 27

  public int best(int heir, int what) {
    if (!isHeir(heir)) return refused(NOBODY);
    if (!isTwofold(what)) return refused(OTHER);
    return toldBite(heir, furthestBite(heir, now.left, 1), what);
  }

  public int worst(int heir, int what) {
    if (!isHeir(heir)) return refused(NOBODY);
    if (!isTwofold(what)) return refused(OTHER);
    return toldBite(heir, furthestBite(heir, now.left, -1), what);
  }

  public int fewest(int heir, int v, int what) {
    if (!isHeir(heir)) return refused(NOBODY);
    if (v < 0) return refused(BELOW);
    if (v > MOST_SHARE_ASKED) return refused(ROOM);
    if (!isTwofold(what)) return refused(OTHER);
    if (shareOf(heir, now.left) >= v) return what == 0 ? 0 : NONE;
    int one = firstBiteTo(heir, v, now.left, 0);
    if (one != NO_BITE) return what == 0 ? 1 : bitesName(one);
    int two = firstOfTwoBitesTo(heir, v);
    if (two != NO_BITE) return what == 0 ? 2 : bitesName(two);
    return NONE;
  }

  public int safe() {
    int harmless = 0;
    for (int bite = 0; bite < BITES; bite++) {
      int behind = Grid.behind(bite, now.left);
      if (behind != now.left && changesNobody(behind)) harmless++;
    }
    return harmless;
  }

  public int grudge(int heir) {
    if (!isHeir(heir)) return refused(NOBODY);
    int found = NONE;
    int least = 0;
    for (int other = 0; other < now.heirs; other++) {
      if (other == heir) continue;
      int bite = furthestBite(other, now.left, 1);
      if (bite == NO_BITE) continue;
      int share = shareOf(heir, Grid.behind(bite, now.left));
      if (found == NONE || share < least) {
        found = other;
        least = share;
      }
    }
    return found;
  }

  public int gain(int one, int other) {
    if (!areTwo(one, other)) return GAIN_REFUSED - refused(NOBODY);
    int bite = furthestBite(one, now.left, 1);
    return shareOf(other, Grid.behind(bite, now.left)) - shareOf(other, now.left);
  }

  public int two(int a, int b) {
    if (!areTwo(a, b)) return refused(NOBODY);
    for (int pair = 0; pair < 4; pair++) {
      ends[pair] = chosen(b, pair % 2, chosen(a, pair / 2, now.left));
    }
    for (int pair = 0; pair < 4; pair++) {
      boolean firstRests = shareOf(a, ends[pair]) >= shareOf(a, ends[pair ^ 2]);
      if (firstRests && shareOf(b, ends[pair]) >= shareOf(b, ends[pair ^ 1])) {
        return 10 * (pair / 2) + pair % 2;
      }
    }
    return NONE;
  }

  // ---- odds, told numbers, lots: promises 28 to 34

  public long chance(int heir, int n, int v, int part) {
    if (!isHeir(heir)) return LONG_REFUSED - refused(NOBODY);
    if (n < 0 || v < 0) return LONG_REFUSED - refused(BELOW);
    if (n > 2 || v > MOST_SHARE_ASKED) return LONG_REFUSED - refused(ROOM);
    if (!isTwofold(part)) return LONG_REFUSED - refused(OTHER);
    int cells = Integer.bitCount(now.left);
    // A bite of nothing is no bite, so no more of them count than there are cells.
    int counted = Math.min(n, cells);
    if (counted == 0) return partOf(shareOf(heir, now.left) >= v ? 1 : 0, 1, part);
    if (counted == 1) return partOf(singlesTo(heir, v, now.left, 0), cells, part);
    return partOf(pairsTo(heir, v), cells * (cells - 1) / 2, part);
  }

  public long mean(int part) {
    if (!isTwofold(part)) return LONG_REFUSED - refused(OTHER);
    return partOf(sharesTogether(now.left), Math.max(1, now.heirs), part);
  }

  public int whatIs(int heir, int what) {
    if (!isHeir(heir)) return refused(NOBODY);
    if (!isTwofold(what)) return refused(OTHER);
    int fitting = 0;
    int candidates = what == 0 ? KINDS : FIGURES;
    for (int candidate = 0; candidate < candidates; candidate++) {
      int kind = what == 0 ? candidate : now.kinds[heir];
      int figure = what == 0 ? now.figures[heir] : candidate;
      if (fitsTold(kind, figure)) fitting |= 1 << candidate;
    }
    return fitting;
  }

  public int row(int v) {
    if (v < 0) return refused(BELOW);
    if (v > MOST_TOLD || tolds >= MOST_IN_ROW) return refused(ROOM);
    told[tolds] = v;
    tolds++;
    return tolds;
  }

  public int judge() {
    int wrong = firstWronglyTold();
    tolds = 0;
    return wrong;
  }

  public int clear() {
    int had = tolds;
    tolds = 0;
    return had;
  }

  public int lots(int n, int z, int what) {
    if (n < 1) return refused(BELOW);
    if (n > MOST_LOTS) return refused(ROOM);
    if (!isTwofold(what)) return refused(OTHER);
    int seed = z;
    int together = 0;
    int unsettled = 0;
    for (int lot = 0; lot < n; lot++) {
      int left = now.left;
      for (int drawing = 0; drawing < BITES_BY_LOT; drawing++) {
        int shapes = nextSeed(seed);
        seed = nextSeed(shapes);
        int bite = drawnFrom(shapes) % SHAPES * CELLS + drawnFrom(seed) % CELLS;
        left = Grid.behind(bite, left);
      }
      together += sharesTogether(left);
      if (reading.isInChancery()) unsettled++;
    }
    return what == 0 ? together : unsettled;
  }

  // ---- the image and the counts: promises 35 to 37

  public int image() {
    kept.becomes(now);
    hasImage = true;
    return now.bitten;
  }

  public int on() {
    if (!hasImage) return refused(STATE);
    now.becomes(kept);
    return now.bitten;
  }

  public int count(int what) {
    switch (what) {
      case 0: return now.heirs;
      case 1: return now.bitten;
      case 2: return now.left;
      case 3: return Integer.bitCount(now.left);
      case 4: return sharesTogether(now.left);
      case 5: return isSettled(now.left) ? 0 : 1;
      case 6: return tolds;
      case 7: return text.length;
      default: return what >= 11 && what <= 10 + REFUSAL_KINDS ? refusals[what - 10] : NONE;
    }
  }

  // ---- tests of arguments

  private int refused(int refusal) {
    refusals[-refusal]++;
    return refusal;
  }

  private static boolean isCell(int cell) {
    return cell >= 0 && cell < CELLS;
  }

  private static boolean isTwofold(int what) {
    return what == 0 || what == 1;
  }

  private boolean isHeir(int heir) {
    return heir >= 0 && heir < now.heirs;
  }

  private boolean areTwo(int one, int other) {
    return isHeir(one) && isHeir(other) && one != other;
  }

  private boolean isLeft(int cell) {
    return (now.left & 1 << cell) != 0;
  }

  // ---- shares

  private int shareOf(int heir, int left) {
    reading.reads(left);
    return readShare(heir);
  }

  private int readShare(int heir) {
    return reading.shareBy(now.kinds[heir], now.figures[heir]);
  }

  private int sharesTogether(int left) {
    reading.reads(left);
    int together = 0;
    for (int heir = 0; heir < now.heirs; heir++) together += readShare(heir);
    return together;
  }

  private int richest() {
    reading.reads(now.left);
    int found = NONE;
    int most = -1;
    for (int heir = 0; heir < now.heirs; heir++) {
      int share = readShare(heir);
      if (share > most) {
        most = share;
        found = heir;
      }
    }
    return found;
  }

  private boolean changesNobody(int left) {
    for (int heir = 0; heir < now.heirs; heir++) {
      if (shareOf(heir, left) != shareOf(heir, now.left)) return false;
    }
    return true;
  }

  private boolean isSettled(int left) {
    reading.reads(left);
    return !reading.isInChancery();
  }

  // ---- bites

  private static int bitesName(int bite) {
    return 100 * (bite / CELLS) + bite % CELLS;
  }

  private int toldBite(int heir, int bite, int what) {
    if (bite == NO_BITE) return NONE;
    return what == 0 ? bitesName(bite) : shareOf(heir, Grid.behind(bite, now.left));
  }

  /** The first bite by which one's share goes furthest up (sign 1) or down (sign -1). */
  private int furthestBite(int heir, int left, int sign) {
    int found = NO_BITE;
    int furthest = sign * shareOf(heir, left);
    for (int bite = 0; bite < BITES; bite++) {
      int behind = Grid.behind(bite, left);
      if (behind == left) continue;
      int share = sign * shareOf(heir, behind);
      if (share > furthest) {
        furthest = share;
        found = bite;
      }
    }
    return found;
  }

  private int firstBiteTo(int heir, int v, int left, int from) {
    for (int bite = from; bite < BITES; bite++) {
      int behind = Grid.behind(bite, left);
      if (behind != left && shareOf(heir, behind) >= v) return bite;
    }
    return NO_BITE;
  }

  private int firstOfTwoBitesTo(int heir, int v) {
    for (int bite = 0; bite < BITES; bite++) {
      int behind = Grid.behind(bite, now.left);
      if (behind == now.left) continue;
      // Two bites leave the same in either order, so an earlier second would have been first.
      if (firstBiteTo(heir, v, behind, bite + 1) != NO_BITE) return bite;
    }
    return NO_BITE;
  }

  /** What is left behind one's best bite (choice 0) or behind the first that can be (choice 1). */
  private int chosen(int heir, int choice, int left) {
    if (choice == 0) return Grid.behind(furthestBite(heir, left, 1), left);
    // The first that can be is of the least cell left alone; of nothing it takes nothing.
    return left & (left - 1);
  }

  // ---- cells bitten singly

  private int firstOfTwoThatSettle() {
    for (int cell = 0; cell < CELLS; cell++) {
      if (!isLeft(cell)) continue;
      if (firstCellThatSettles(now.left & ~(1 << cell), cell + 1) != NONE) return cell;
    }
    return NONE;
  }

  private int firstCellThatSettles(int left, int from) {
    for (int cell = from; cell < CELLS; cell++) {
      int bit = 1 << cell;
      if ((left & bit) != 0 && isSettled(left & ~bit)) return cell;
    }
    return NONE;
  }

  private static int bridgesOf(int left) {
    int heaps = Grid.heapsOf(left);
    int bridges = 0;
    for (int cell = 0; cell < CELLS; cell++) {
      int bit = 1 << cell;
      if ((left & bit) != 0 && Grid.heapsOf(left & ~bit) > heaps) bridges |= bit;
    }
    return bridges;
  }

  private int singlesTo(int heir, int v, int left, int from) {
    int enough = 0;
    for (int cell = from; cell < CELLS; cell++) {
      int bit = 1 << cell;
      if ((left & bit) != 0 && shareOf(heir, left & ~bit) >= v) enough++;
    }
    return enough;
  }

  private int pairsTo(int heir, int v) {
    int enough = 0;
    for (int cell = 0; cell < CELLS; cell++) {
      int bit = 1 << cell;
      if ((now.left & bit) != 0) enough += singlesTo(heir, v, now.left & ~bit, cell + 1);
    }
    return enough;
  }

  // ---- fractions, the row, draws, the text

  private static long partOf(int above, int below, int part) {
    int divisor = below;
    int rest = above;
    // Sums and pairs stay far below 1000, so the divisor is found within a few steps.
    for (int step = 0; step < 64 && rest != 0; step++) {
      int next = divisor % rest;
      divisor = rest;
      rest = next;
    }
    if (divisor < 1) return part;
    return part == 0 ? above / divisor : below / divisor;
  }

  private boolean fitsTold(int kind, int figure) {
    for (int i = 0; i < tolds; i++) {
      int bitten = i == 0 ? 0 : 1 << (i - 1);
      reading.reads(now.left & ~bitten);
      if (reading.shareBy(kind, figure) != told[i]) return false;
    }
    return true;
  }

  private int firstWronglyTold() {
    reading.reads(now.left);
    for (int i = 0; i < tolds; i++) {
      if (i >= now.heirs || readShare(i) != told[i]) return i;
    }
    return NONE;
  }

  private static int nextSeed(int seed) {
    return seed * 1664525 + 1013904223;
  }

  private static int drawnFrom(int seed) {
    return (seed & 2147483647) / 256;
  }

  /** How many statements the text has, all done on the trial; or its fault, below 0. */
  private int trialOfText() {
    int misfit = text.misfit();
    if (misfit != NO_FAULT) return -1000 - misfit;
    trial.becomes(now);
    int statements = 0;
    for (int start = 0; start < text.length; start += Math.max(1, text.formAt(start).length())) {
      if (!text.doesStatement(start, trial)) return -2000 - start;
      statements++;
    }
    return statements;
  }

  /** All that the image keeps. */
  private static final class Core {
    final int[] kinds = new int[MOST_HEIRS];
    final int[] figures = new int[MOST_HEIRS];
    int heirs = 0;
    int left = WHOLE;
    int bitten = 0;

    Core() {}

    void becomes(Core other) {
      System.arraycopy(other.kinds, 0, kinds, 0, MOST_HEIRS);
      System.arraycopy(other.figures, 0, figures, 0, MOST_HEIRS);
      heirs = other.heirs;
      left = other.left;
      bitten = other.bitten;
    }

    boolean takesHeir(int kind, int figure) {
      if (heirs >= MOST_HEIRS) return false;
      kinds[heirs] = kind;
      figures[heirs] = figure;
      heirs++;
      return true;
    }

    boolean takesBite(int shape, int cell) {
      int cells = Grid.cellsOf(shape, cell);
      if (cells == 0 || (left & cells) != cells) return false;
      left &= ~cells;
      bitten = Math.min(MOST_BITES, bitten + 1);
      return true;
    }

    boolean mends(int cell) {
      if (!isCell(cell)) return false;
      left |= 1 << cell;
      return true;
    }

    boolean turnsBy(int quarters) {
      if (quarters < 1 || quarters > 3) return false;
      for (int quarter = 0; quarter < quarters; quarter++) left = Grid.turned(left);
      return true;
    }

    boolean renews() {
      left = WHOLE;
      bitten = 0;
      return true;
    }
  }

  /** Sets of cells. */
  private static final class Grid {

    private Grid() {}

    /** The cells of a bite; none if one of them is not there. */
    static int cellsOf(int shape, int cell) {
      if (shape < 0 || shape >= SHAPES || !isCell(cell)) return 0;
      boolean right = shape % 2 == 1;
      boolean lower = shape >= 2;
      if (right && cell % SIDE == SIDE - 1) return 0;
      if (lower && cell / SIDE == SIDE - 1) return 0;
      int cells = 1;
      if (right) cells |= cells << 1;
      if (lower) cells |= cells << SIDE;
      return cells << cell;
    }

    /** What a bite leaves; all, if it can not be or is none. */
    static int behind(int bite, int left) {
      if (bite < 0) return left;
      int cells = cellsOf(bite / CELLS, bite % CELLS);
      return (left & cells) == cells ? left & ~cells : left;
    }

    static int besides(int cells) {
      int leftAndRight = (cells & ~FIRST_COLUMN) >> 1 | (cells & ~LAST_COLUMN) << 1;
      return leftAndRight | cells >> SIDE | cells << SIDE & WHOLE;
    }

    /** The heap of the cells among these that hang together with a first one. */
    static int heapOf(int first, int among) {
      int heap = first & among;
      for (int step = 0; step < CELLS; step++) {
        int grown = heap | besides(heap) & among;
        if (grown == heap) return heap;
        heap = grown;
      }
      return heap;
    }

    static int heapsOf(int among) {
      int heaps = 0;
      int rest = among;
      for (int step = 0; step < CELLS && rest != 0; step++) {
        rest &= ~heapOf(rest & -rest, rest);
        heaps++;
      }
      return heaps;
    }

    static int holesOf(int left) {
      int holes = 0;
      int rest = WHOLE & ~left;
      for (int step = 0; step < CELLS && rest != 0; step++) {
        int heap = heapOf(rest & -rest, rest);
        if ((heap & BORDER) == 0) holes++;
        rest &= ~heap;
      }
      return holes;
    }

    static int openSides(int left) {
      int across = (left & ~LAST_COLUMN) << 1 & left;
      int down = left << SIDE & left;
      // Two cells side by side close a side of each.
      return 4 * Integer.bitCount(left) - 2 * (Integer.bitCount(across) + Integer.bitCount(down));
    }

    static int turned(int left) {
      int turned = 0;
      for (int cell = 0; cell < CELLS; cell++) {
        int to = cell % SIDE * SIDE + SIDE - 1 - cell / SIDE;
        turned |= (left >> cell & 1) << to;
      }
      return turned;
    }

    static int leastCell(int cells) {
      return Integer.bitCount((cells & -cells) - 1);
    }

    static int middleOf(int left) {
      int found = NONE;
      int fewest = 0;
      for (int cell = 0; cell < CELLS; cell++) {
        if ((left & 1 << cell) == 0) continue;
        int steps = stepsToAll(cell, left);
        if (found == NONE || steps < fewest) {
          found = cell;
          fewest = steps;
        }
      }
      return found;
    }

    static int stepsToAll(int from, int left) {
      int steps = 0;
      for (int to = 0; to < CELLS; to++) {
        if ((left & 1 << to) == 0) continue;
        steps += Math.abs(from / SIDE - to / SIDE) + Math.abs(from % SIDE - to % SIDE);
      }
      return steps;
    }
  }

  /** A core read for the law: its pieces, its deed, and the share that a kind has by them. */
  private static final class Reading {
    int gone;
    int heaps;
    int fewestCells;
    int deed;

    Reading() {}

    void reads(int left) {
      gone = CELLS - Integer.bitCount(left);
      heaps = 0;
      fewestCells = 0;
      deed = 0;
      int most = 0;
      int rest = left;
      for (int step = 0; step < CELLS && rest != 0; step++) {
        int heap = Grid.heapOf(rest & -rest, rest);
        int size = Integer.bitCount(heap);
        heaps++;
        if (heaps == 1 || size < fewestCells) fewestCells = size;
        if (size >= most) deed = size > most ? heap : 0;
        most = Math.max(most, size);
        rest &= ~heap;
      }
    }

    boolean isInChancery() {
      return deed == 0;
    }

    int shareBy(int kind, int figure) {
      if (isInChancery()) return kind == LAWYER ? figure : 0;
      int nephews = Integer.bitCount(deed & FIRST_COLUMN << figure % SIDE);
      int elders = nephews + ((deed & STALK) != 0 ? 5 : 0);
      int widows = nephews / 2 + 2 * Integer.bitCount(deed & PIPS);
      switch (kind) {
        case NEPHEW: return nephews;
        case ELDER: return elders;
        case WIDOW: return widows;
        case LAWYER: return elders / 3;
        case PIG: return Math.max(0, gone - figure);
        case KITCHEN: return widows + heaps - 1;
        default: return 0;
      }
    }
  }

  /**
   * How cells not left can be made up by bites. Cells go by one by one; a state tells by 6 bits
   * which of a cell and the five behind it are made up already.
   */
  private static final class Cover {
    private static final int STATES = 64;
    private static final int MODULUS = 1000003;
    private static final int NO_WAY = 1000;

    private int[] ways = new int[STATES];
    private int[] fewest = new int[STATES];
    private int[] nextWays = new int[STATES];
    private int[] nextFewest = new int[STATES];

    Cover() {}

    int waysDone() {
      return ways[0];
    }

    int fewDone() {
      return fewest[0];
    }

    void covers(int left) {
      empties();
      comesTo(0, 1, 0);
      for (int cell = 0; cell < CELLS; cell++) {
        steps();
        for (int state = 0; state < STATES; state++) {
          if (fewest[state] < NO_WAY) goesOn(state, cell, left);
        }
      }
      steps();
    }

    private void goesOn(int state, int cell, int left) {
      if ((state & 1) != 0 || (left >> cell & 1) != 0) {
        comesTo(state >> 1, ways[state], fewest[state]);
        return;
      }
      for (int shape = 0; shape < SHAPES; shape++) {
        int cells = Grid.cellsOf(shape, cell);
        int ahead = cells >> cell;
        if (cells == 0 || (cells & left) != 0 || (ahead & state) != 0) continue;
        comesTo((state | ahead) >> 1, ways[state], fewest[state] + 1);
      }
    }

    private void comesTo(int state, int more, int bites) {
      if (state < 0 || state >= STATES) return;
      nextWays[state] = (nextWays[state] + more) % MODULUS;
      nextFewest[state] = Math.min(nextFewest[state], bites);
    }

    private void steps() {
      int[] doneWays = ways;
      int[] doneFewest = fewest;
      ways = nextWays;
      fewest = nextFewest;
      nextWays = doneWays;
      nextFewest = doneFewest;
      empties();
    }

    private void empties() {
      for (int state = 0; state < STATES; state++) {
        nextWays[state] = 0;
        nextFewest[state] = NO_WAY;
      }
    }
  }

  /** The letters that have come. */
  private static final class Text {
    private static final String KIND_LETTERS = "newlpk";

    private final int[] letters = new int[MOST_LETTERS];
    int length = 0;

    Text() {}

    int takes(int letter) {
      if (length < MOST_LETTERS) {
        letters[length] = letter;
        length++;
      }
      return length;
    }

    /** The place of the first letter with which no core can go on; the end, if something lacks. */
    int misfit() {
      int start = 0;
      for (int place = 0; place < length; place++) {
        String form = formAt(start);
        if (!suits(form, place - start, letters[place])) return place;
        if (place - start == form.length() - 1) start = place + 1;
      }
      return length > 0 && start == length ? NO_FAULT : length;
    }

    /** The form of the statement that begins at a place: K is a kind's letter, 9 any digit. */
    String formAt(int start) {
      switch (letterAt(start)) {
        case 'h': return "hK9;";
        case 'b': return "b999;";
        case 'l': return "l99;";
        case 'r': return "r9;";
        case 'n': return "n;";
        default: return "";
      }
    }

    /** Does the statement that begins at a place; false if it is not as it must be. */
    boolean doesStatement(int start, Core core) {
      switch (letterAt(start)) {
        case 'h': return core.takesHeir(kindAt(start + 1), digitAt(start + 2));
        case 'b': return core.takesBite(digitAt(start + 1), numberAt(start + 2));
        case 'l': return core.mends(numberAt(start + 1));
        case 'r': return core.turnsBy(digitAt(start + 1));
        case 'n': return core.renews();
        default: return false;
      }
    }

    private static boolean suits(String form, int at, int letter) {
      if (at < 0 || at >= form.length()) return false;
      char due = form.charAt(at);
      if (due == 'K') return KIND_LETTERS.indexOf((char) letter) >= 0;
      if (due == '9') return letter >= '0' && letter <= '9';
      return letter == due;
    }

    private int letterAt(int place) {
      return place >= 0 && place < length ? letters[place] : -1;
    }

    private int kindAt(int place) {
      return KIND_LETTERS.indexOf((char) letterAt(place));
    }

    private int digitAt(int place) {
      return letterAt(place) - '0';
    }

    private int numberAt(int place) {
      return 10 * digitAt(place) + digitAt(place + 1);
    }
  }
}
