import java.io.IOException;
import java.lang.reflect.Field;
import java.lang.reflect.Method;
import java.lang.reflect.Modifier;
import java.nio.file.Files;
import java.nio.file.Path;
import java.util.ArrayList;
import java.util.Arrays;
import java.util.List;
import java.util.Map;
import java.util.TreeMap;
import java.util.TreeSet;
import java.util.regex.Matcher;
import java.util.regex.Pattern;

/** What can be seen of the rules of LANGUAGE.md in the source and in the compiled classes. */
public final class LanguageTest {
  private static final Path LANGUAGE = Path.of("../shared/LANGUAGE.md");
  private static final Path SOURCE = Path.of("src/main/java/CoresAreWills.java");
  private static final int RULES = 13;
  /** Of what rule 4 lists, what the class uses; another thing is to be looked up there first. */
  private static final List<String> LIBRARY = List.of(
      "java/lang/Integer.bitCount(I)I", "java/lang/Math.abs(I)I", "java/lang/Math.max(II)I",
      "java/lang/Math.min(II)I", "java/lang/Object.<init>()V", "java/lang/String.charAt(I)C",
      "java/lang/String.indexOf(I)I", "java/lang/String.length()I",
      "java/lang/System.arraycopy(Ljava/lang/Object;ILjava/lang/Object;II)V");
  private static final String[] FORBIDDEN = {
    "\\bthrow\\b", "\\btry\\b", "\\bcatch\\b", "\\bsynchronized\\b", "\\bassert\\b", "\\bthrows\\b",
    "\\bfinally\\b", "\\bequals\\(", "\\bhashCode\\b", "\\btoString\\b", "\\binstanceof\\b"
  };

  private final Checks checks = new Checks("LanguageTest");
  private final Class<?> face = CoresAreWills.class;
  private final List<Class<?>> types = new ArrayList<>();
  private final String language;
  private final List<String> lines;
  private final String source;
  private int rule = 0;

  private LanguageTest() throws IOException {
    language = Files.readString(LANGUAGE).replaceAll("\\s+", " ");
    lines = Files.readAllLines(SOURCE);
    source = withoutComments(Files.readString(SOURCE));
    types.add(face);
    types.addAll(Arrays.asList(face.getDeclaredClasses()));
  }

  public static void main(String[] args) throws IOException {
    LanguageTest test = new LanguageTest();
    test.members();
    test.insides();
    test.typesOfMembers();
    test.library();
    test.statics();
    test.words();
    test.divisors();
    test.recursion();
    test.loops();
    test.joins();
    test.sizes();
    test.objects();
    test.outside();
    test.checks.due("rules", test.rule, RULES);
    test.checks.ends();
  }

  /** The next rule begins; the words that are tested stand in it. */
  private void rule(String... words) {
    rule++;
    int from = language.indexOf(" " + rule + ". ");
    int next = language.indexOf(" " + (rule + 1) + ". ");
    int to = rule < RULES ? next : language.length();
    boolean stands = from >= 0 && to > from;
    holds("stands", stands);
    for (String word : words) {
      holds("says: " + word, stands && language.substring(from, to).contains(word));
    }
  }

  private void holds(String what, boolean so) {
    checks.holds("rule " + rule + ": " + what, so);
  }

  private static String withoutComments(String source) {
    return source.replaceAll("(?s)/\\*.*?\\*/", "").replaceAll("//[^\\n]*", "");
  }

  private boolean has(String pattern) {
    return Pattern.compile(pattern).matcher(source).find();
  }

  // ---- rules 1 to 6

  private void members() {
    rule("no other public, protected or package-visible member",
        "No private method bears the name of a public one");
    holds("no package line", !has("\\bpackage\\b"));
    holds("no protected", !has("\\bprotected\\b"));
    TreeSet<String> publics = new TreeSet<>();
    for (Method method : face.getMethods()) publics.add(method.getName());
    for (Class<?> type : types) {
      for (Method method : type.getDeclaredMethods()) {
        boolean isPrivate = Modifier.isPrivate(method.getModifiers());
        boolean isPublic = Modifier.isPublic(method.getModifiers());
        if (type == face) holds(method + " is public or private", isPrivate || isPublic);
        holds(method + " bears a name of its own",
            type == face && isPublic || !publics.contains(method.getName()));
      }
    }
    for (Field field : face.getDeclaredFields()) {
      holds(field + " is private", Modifier.isPrivate(field.getModifiers()));
    }
  }

  private void insides() throws IOException {
    rule("static nested classes", "no local or anonymous class, no lambda, no method reference");
    for (Class<?> type : types) {
      int is = type.getModifiers();
      if (type != face) {
        holds(type + " is static and of the file alone",
            Modifier.isStatic(is) && !Modifier.isPublic(is) && !Modifier.isProtected(is));
      }
      holds(type + " has no lambda", !new Compiled(type).isDynamic());
      holds(type + " has no class inside but of the face",
          type == face || type.getDeclaredClasses().length == 0);
    }
    holds("no local or anonymous class", face.getNestMembers().length == types.size());
    holds("no ->", !source.contains("->"));
    holds("no ::", !source.contains("::"));
  }

  private boolean isAllowed(Class<?> type) {
    Class<?> of = type.isArray() ? type.getComponentType() : type;
    boolean ofNumbers = of.isPrimitive() && of != void.class;
    return ofNumbers || types.contains(of) || type == String.class;
  }

  private void typesOfMembers() {
    rule("arrays of these and of your own classes, of one dimension");
    for (Class<?> type : types) {
      for (Field field : type.getDeclaredFields()) holds("" + field, isAllowed(field.getType()));
      for (Method method : type.getDeclaredMethods()) {
        Class<?> answers = method.getReturnType();
        holds("" + method, answers == void.class || isAllowed(answers));
        for (Class<?> takes : method.getParameterTypes()) holds("" + method, isAllowed(takes));
      }
    }
    holds("no double, no float", !has("\\b(double|float)\\b"));
  }

  private void library() throws IOException {
    rule("only what stands here", "constants, whose signs are 1 to 127");
    holds("no import", !has("\\bimport\\b"));
    for (Class<?> type : types) {
      Compiled compiled = new Compiled(type);
      for (String used : compiled.usesBeside(face.getName())) {
        holds(type + " uses " + used, LIBRARY.contains(used));
      }
      for (String text : compiled.texts()) {
        holds("\"" + text + "\"", text.chars().allMatch(sign -> sign >= 1 && sign <= 127));
      }
    }
    holds("signs of the source", source.chars().allMatch(sign -> sign >= 1 && sign <= 127));
  }

  private void statics() {
    rule("Static fields are final", "no static initialiser block");
    List<Class<?>> constants =
        List.of(int.class, long.class, boolean.class, char.class, String.class);
    for (Class<?> type : types) {
      for (Field field : type.getDeclaredFields()) {
        if (!Modifier.isStatic(field.getModifiers())) continue;
        holds(field + " is final", Modifier.isFinal(field.getModifiers()));
        holds(field + " is a constant", constants.contains(field.getType()));
      }
    }
    holds("no initialiser", !has("\\bstatic\\s*\\{"));
  }

  private void words() {
    rule("No throw, try, catch, synchronized, assert",
        "No equals, hashCode or toString of your own objects");
    for (String forbidden : FORBIDDEN) holds("no " + forbidden, !has(forbidden));
  }

  // ---- rules 7 to 10

  private void divisors() {
    rule("a divisor before it divides");
    List<String> constants = new ArrayList<>();
    for (Class<?> type : types) {
      for (Field field : type.getDeclaredFields()) {
        if (Modifier.isStatic(field.getModifiers())) constants.add(field.getName());
      }
    }
    Matcher division = Pattern.compile("[/%]=? *([\\w(]+)").matcher(source);
    int tested = 0;
    while (division.find()) {
      String divisor = division.group(1);
      if (divisor.matches("[1-9]\\d*") || constants.contains(divisor)) continue;
      // These two are looked at against 0 in the lines ahead of them.
      holds("divides by " + divisor, divisor.equals("rest") || divisor.equals("divisor"));
      tested++;
    }
    checks.due("divisions by what is no constant", tested, 3);
    holds("looks at them",
        source.contains("step < 64 && rest != 0;") && source.contains("if (divisor < 1) return"));
  }

  private void recursion() {
    rule("a guard on the depth", "stay under 300 for every run of calls");
    // What calls itself would go deeper than there are methods.
    Map<String, TreeSet<String>> calls = calls();
    for (String name : calls.keySet()) {
      holds(name + " calls itself", depth(name, calls, 1) <= calls.size());
    }
  }

  private void loops() {
    rule("Every loop has an end that can be seen from its own lines");
    holds("no while, no do", !has("\\b(while|do)\\b"));
    Matcher loop = Pattern.compile("\\bfor \\((.*)\\) (?:\\{|.*;)").matcher(source);
    int loops = 0;
    while (loop.find()) {
      String[] parts = loop.group(1).split(";");
      loops++;
      holds("for (" + loop.group(1) + ")",
          parts.length == 3 && ends(parts[0].trim(), parts[1].trim(), parts[2].trim()));
    }
    checks.due("loops", loops, source.split("\\bfor\\b", -1).length - 1);
  }

  /** A counter that only grows, against a bound. */
  private static boolean ends(String start, String goesOn, String step) {
    Matcher counter = Pattern.compile("int (\\w+) = .+").matcher(start);
    if (!counter.matches()) return false;
    String name = counter.group(1);
    boolean grows = step.equals(name + "++") || step.startsWith(name + " += Math.max(1, ");
    return grows && goesOn.matches(name + " < [\\w.]+( && .+)?");
  }

  private void joins() {
    rule("joining texts by StringBuilder (not by +)");
    holds("no text is joined", !has("\" *\\+|\\+ *\""));
  }

  // ---- rules 11 to 13

  private void sizes() {
    rule("at most seven parameters", "some sixty lines", "at most eight deep",
        "some twelve classes", "some twenty fields beside its constants");
    holds("some twelve classes", types.size() <= 12);
    for (Class<?> type : types) {
      int own = 0;
      for (Field field : type.getDeclaredFields()) {
        if (!Modifier.isStatic(field.getModifiers())) own++;
      }
      holds(type + " has some twenty fields", own <= 20);
      for (Method method : type.getDeclaredMethods()) {
        holds(method + " takes at most seven", method.getParameterCount() <= 7);
      }
    }
    lengths();
    Map<String, TreeSet<String>> calls = calls();
    for (Class<?> type : types) {
      for (Method method : type.getDeclaredMethods()) {
        holds(method.getName() + " is found", calls.containsKey(method.getName()));
      }
    }
    for (String name : calls.keySet()) {
      int depth = depth(name, calls, 1);
      holds(name + " goes " + depth + " deep", depth <= 8);
    }
  }

  private void lengths() {
    int start = -1;
    for (int i = 0; i < lines.size(); i++) {
      String line = lines.get(i);
      holds("line " + (i + 1) + " is at most 100 long", line.length() <= 100);
      if (line.matches("( {2}| {4})[A-Za-z].*\\) \\{") && !line.contains(" new ")) start = i;
      if (start < 0 || !line.matches("( {2}| {4})\\}")) continue;
      holds("method at line " + (start + 1) + " is short", i - start < 60);
      start = -1;
    }
  }

  /** What stands in each method; those of the same name are taken as one. */
  private Map<String, String> bodies() {
    Map<String, String> bodies = new TreeMap<>();
    Matcher method = Pattern.compile("(?ms)^( {2}| {4})[A-Za-z][\\w \\[\\]]*? (\\w+)\\([^()]*\\) \\{$"
        + "(.*?)^\\1\\}$").matcher(source);
    while (method.find()) bodies.merge(method.group(2), method.group(3), String::concat);
    return bodies;
  }

  /** The methods that each method calls. */
  private Map<String, TreeSet<String>> calls() {
    Map<String, TreeSet<String>> calls = new TreeMap<>();
    Map<String, String> bodies = bodies();
    for (String name : bodies.keySet()) {
      TreeSet<String> called = new TreeSet<>();
      Matcher call = Pattern.compile("\\b(\\w+)\\(").matcher(bodies.get(name));
      while (call.find()) if (bodies.containsKey(call.group(1))) called.add(call.group(1));
      calls.put(name, called);
    }
    return calls;
  }

  private static int depth(String name, Map<String, TreeSet<String>> calls, int open) {
    if (open > calls.size()) return open;
    int deepest = 1;
    for (String called : calls.get(name)) {
      deepest = Math.max(deepest, 1 + depth(called, calls, open + 1));
    }
    return deepest;
  }

  private void objects() {
    rule("What a run makes is counted", "A constructor calls no method");
    // Rows are made with the object: no call makes one (RoomTest sees it when they run).
    Pattern made = Pattern.compile("\\bnew\\b");
    Map<String, String> bodies = bodies();
    for (String name : bodies.keySet()) {
      holds(name + " makes nothing", !made.matcher(bodies.get(name)).find());
    }
    Matcher constructor = Pattern.compile("(?m)^ +(?:public |private )?[A-Z]\\w+\\(\\) \\{(.*)$")
        .matcher(source);
    int constructors = 0;
    while (constructor.find()) {
      constructors++;
      holds("a constructor does nothing", constructor.group(1).equals("}"));
    }
    checks.due("constructors", constructors, types.size());
  }

  private void outside() {
    rule("No clock, no randomness, no file, network, thread or environment");
    holds("of System only arraycopy", !has("\\bSystem\\.(?!arraycopy\\()"));
    holds("no volatile, no native", !has("\\b(volatile|native|transient)\\b"));
  }
}
