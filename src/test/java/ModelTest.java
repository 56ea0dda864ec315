/** Runs of calls drawn by a fixed seed: the program and the model must answer alike throughout. */
public final class ModelTest {
  private static final int RUNS = 700;
  private static final int CALLS = 512;
  private static final String[] NAMES = {
    "cell", "heir", "bites", "heals", "rolls", "turn", "anew", "shares", "pieces", "edge", "best",
    "worst", "fewest", "safe", "can", "ways", "alike", "settles", "pips", "grudge", "gain", "join",
    "bridge", "two", "chance", "mean", "whatIs", "row", "judge", "clear", "lots", "image", "on",
    "count", "letter", "core"
  };

  private final Checks checks = new Checks("ModelTest");
  private long seed = 20261118L;
  private CoresAreWills program;
  private Model model;
  private int calls;
  private String where;

  public static void main(String[] args) {
    ModelTest test = new ModelTest();
    for (int run = 0; run < RUNS; run++) test.runs(run);
    test.checks.ends();
  }

  private int draw(int below) {
    seed = seed * 6364136223846793005L + 1442695040888963407L;
    return (int) ((seed >>> 33) % below);
  }

  /** Mostly one of 0 .. most; now and then just outside or far off. */
  private int arg(int most) {
    int odd = draw(40);
    if (odd == 0) return -1;
    if (odd == 1) return most + 1;
    if (odd == 2) return draw(2) == 0 ? Integer.MIN_VALUE : Integer.MAX_VALUE;
    return draw(most + 1);
  }

  private void runs(int run) {
    program = new CoresAreWills();
    model = new Model();
    calls = 0;
    where = "run " + run;
    // Some runs stay in nearly whole cores, some in nearly eaten ones.
    int appetite = draw(4);
    while (calls < CALLS) {
      int kind = draw(12);
      if (kind == 0) tells(text());
      else if (kind <= appetite) call("bites", draw(4), draw(25), 0, 0);
      else any();
    }
  }

  private void any() {
    String name = NAMES[draw(NAMES.length)];
    if (name.equals("anew") && draw(4) > 0) name = "safe";
    if (name.equals("letter") && draw(8) > 0) name = "count";
    if (name.equals("core") && draw(4) > 0) name = "two";
    switch (name) {
      case "cell": call(name, arg(24), arg(2), 0, 0); break;
      case "heir": call(name, arg(4), arg(2), 0, 0); break;
      case "bites": call(name, arg(3), arg(24), 0, 0); break;
      case "heals": case "join": call(name, arg(24), 0, 0, 0); break;
      case "rolls": call(name, arg(3), 0, 0, 0); break;
      case "turn": call(name, arg(4), arg(5), arg(9), 0); break;
      case "pieces": call(name, arg(3), 0, 0, 0); break;
      case "bridge": call(name, arg(2), 0, 0, 0); break;
      case "best": case "worst": case "whatIs": call(name, arg(4), arg(1), 0, 0); break;
      case "fewest": call(name, arg(4), value(), arg(1), 0); break;
      case "can": call(name, arg(4) - 1, 0, 0, 0); break;
      case "grudge": call(name, arg(4), 0, 0, 0); break;
      case "gain": case "two": call(name, arg(4), arg(4), 0, 0); break;
      case "chance": call(name, arg(4), arg(2), value(), arg(1)); break;
      case "row": rows(); break;
      case "lots": call(name, draw(9) == 0 ? arg(20) : 1 + draw(3), (int) seed, arg(1), 0); break;
      case "count": call(name, arg(17), 0, 0, 0); break;
      case "letter": call(name, arg(255), 0, 0, 0); break;
      default: call(name, arg(1), 0, 0, 0);
    }
  }

  private int value() {
    return draw(6) == 0 ? arg(40) : draw(12);
  }

  /** Numbers that are often what an heir has now, so that not all that is told is wrong. */
  private void rows() {
    int told = 1 + draw(draw(4) == 0 ? 17 : 4);
    int heirs = program.count(0);
    boolean ofOne = draw(2) == 0;
    int one = draw(5);
    for (int i = 0; i < told; i++) {
      int whose = ofOne ? one : i;
      int v = whose < heirs ? program.heir(whose, 2) : draw(10);
      if (whose < heirs) model.heir(whose, 2);
      call("row", draw(12) == 0 ? arg(99) : v, 0, 0, 0);
      calls++;
    }
    calls++;
    model.count(0);
  }

  private void tells(String told) {
    for (int i = 0; i < told.length(); i++) call("letter", told.charAt(i), 0, 0, 0);
    if (draw(10) > 0) call("core", 0, 0, 0, 0);
  }

  private String text() {
    StringBuilder told = new StringBuilder();
    int statements = draw(6) == 0 ? 24 : 1 + draw(4);
    for (int i = 0; i < statements; i++) told.append(statement());
    if (draw(6) == 0) told.setCharAt(draw(told.length()), "hbrln;09x ".charAt(draw(10)));
    if (draw(12) == 0) told.setLength(draw(told.length()));
    return told.toString();
  }

  private String statement() {
    int cell = draw(30) == 0 ? draw(100) : draw(25);
    String two = "" + cell / 10 + cell % 10;
    switch (draw(8)) {
      case 0: case 1: case 2: return "h" + "newlpk".charAt(draw(6)) + draw(10) + ";";
      case 3: case 4: return "b" + (draw(20) == 0 ? draw(10) : draw(4)) + two + ";";
      case 5: return "l" + two + ";";
      case 6: return "r" + (draw(10) == 0 ? draw(10) : 1 + draw(3)) + ";";
      default: return draw(3) == 0 ? "n;" : "h" + "newlpk".charAt(draw(6)) + draw(10) + ";";
    }
  }

  private void call(String name, int a, int b, int c, int d) {
    if (calls >= CALLS) return;
    calls++;
    String what = where + ", call " + calls + ": " + name + "(" + a + ", " + b + ", " + c + ", " + d + ")";
    checks.due(what, ofProgram(name, a, b, c, d), ofModel(name, a, b, c, d));
  }

  private long ofProgram(String name, int a, int b, int c, int d) {
    switch (name) {
      case "letter": return program.letter(a);
      case "core": return program.core();
      case "cell": return program.cell(a, b);
      case "heir": return program.heir(a, b);
      case "bites": return program.bites(a, b);
      case "heals": return program.heals(a);
      case "rolls": return program.rolls(a);
      case "turn": return program.turn(a, b, c);
      case "anew": return program.anew();
      case "shares": return program.shares(a);
      case "pieces": return program.pieces(a);
      case "edge": return program.edge(a);
      case "best": return program.best(a, b);
      case "worst": return program.worst(a, b);
      case "fewest": return program.fewest(a, b, c);
      case "safe": return program.safe();
      case "can": return program.can(a);
      case "ways": return program.ways(a);
      case "alike": return program.alike(a);
      case "settles": return program.settles(a);
      case "pips": return program.pips(a);
      case "grudge": return program.grudge(a);
      case "gain": return program.gain(a, b);
      case "join": return program.join(a);
      case "bridge": return program.bridge(a);
      case "two": return program.two(a, b);
      case "chance": return program.chance(a, b, c, d);
      case "mean": return program.mean(a);
      case "whatIs": return program.whatIs(a, b);
      case "row": return program.row(a);
      case "judge": return program.judge();
      case "clear": return program.clear();
      case "lots": return program.lots(a, b, c);
      case "image": return program.image();
      case "on": return program.on();
      case "count": return program.count(a);
      default: throw new IllegalArgumentException(name);
    }
  }

  private long ofModel(String name, int a, int b, int c, int d) {
    switch (name) {
      case "letter": return model.letter(a);
      case "core": return model.core();
      case "cell": return model.cell(a, b);
      case "heir": return model.heir(a, b);
      case "bites": return model.bites(a, b);
      case "heals": return model.heals(a);
      case "rolls": return model.rolls(a);
      case "turn": return model.turn(a, b, c);
      case "anew": return model.anew();
      case "shares": return model.shares(a);
      case "pieces": return model.pieces(a);
      case "edge": return model.edge(a);
      case "best": return model.best(a, b);
      case "worst": return model.worst(a, b);
      case "fewest": return model.fewest(a, b, c);
      case "safe": return model.safe();
      case "can": return model.can(a);
      case "ways": return model.ways(a);
      case "alike": return model.alike(a);
      case "settles": return model.settles(a);
      case "pips": return model.pips(a);
      case "grudge": return model.grudge(a);
      case "gain": return model.gain(a, b);
      case "join": return model.join(a);
      case "bridge": return model.bridge(a);
      case "two": return model.two(a, b);
      case "chance": return model.chance(a, b, c, d);
      case "mean": return model.mean(a);
      case "whatIs": return model.whatIs(a, b);
      case "row": return model.row(a);
      case "judge": return model.judge();
      case "clear": return model.clear();
      case "lots": return model.lots(a, b, c);
      case "image": return model.image();
      case "on": return model.on();
      case "count": return model.count(a);
      default: throw new IllegalArgumentException(name);
    }
  }
}
