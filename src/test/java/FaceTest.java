import java.io.IOException;
import java.lang.reflect.Constructor;
import java.lang.reflect.Field;
import java.lang.reflect.Method;
import java.lang.reflect.Modifier;
import java.nio.file.Files;
import java.nio.file.Path;
import java.util.List;
import java.util.Map;
import java.util.TreeMap;
import java.util.TreeSet;
import java.util.regex.Matcher;
import java.util.regex.Pattern;

/** The public face of the document, and what of LANGUAGE.md can be seen in the source. */
public final class FaceTest {
  private static final Path SOURCE = Path.of("src/main/java/CoresAreWills.java");
  private static final String FACE =
      "letter i, core, cell ii, heir ii, bites ii, heals i, rolls i, turn iii, anew, shares i,"
          + " pieces i, edge i, best ii, worst ii, fewest iii, safe, can i, ways i, alike i,"
          + " settles i, pips i, grudge i, gain ii, join i, bridge i, two ii, chance iiii l,"
          + " mean i l, whatIs ii, row i, judge, clear, lots iii, image, on, count i";
  private static final String[] FORBIDDEN = {
    "\\bthrow\\b", "\\btry\\b", "\\bcatch\\b", "\\bsynchronized\\b", "\\bassert\\b", "->", "::",
    "\\bimport\\b", "\\bpackage\\b", "\\bprotected\\b", "\\bthrows\\b", "\\bfinally\\b", "@",
    "Exact\\(", "System\\.(?!arraycopy\\()", "\\bThread\\b", "\\bnative\\b", "\\bvolatile\\b",
    "\\btoString\\b", "\\bhashCode\\b", "\\bException\\b", "\\bError\\b", "\\bObject\\b",
    "\\bstatic\\s*\\{", "\\bwhile \\(true\\)", "[^\\x00-\\x7f]"
  };

  private final Checks checks = new Checks("FaceTest");

  public static void main(String[] args) throws IOException {
    FaceTest test = new FaceTest();
    test.face();
    test.insides();
    test.source(Files.readString(SOURCE));
    test.lengths(Files.readAllLines(SOURCE));
    test.depths(withoutComments(Files.readString(SOURCE)));
    test.checks.ends();
  }

  private static Map<String, String> told() {
    Map<String, String> face = new TreeMap<>();
    for (String method : FACE.split(", ?")) {
      String[] parts = method.trim().split(" ");
      boolean isLong = parts[parts.length - 1].equals("l");
      String takes = parts.length > 1 ? parts[1] : "";
      face.put(parts[0], (isLong ? "long " : "int ") + takes.length());
    }
    return face;
  }

  private void face() {
    Class<?> type = CoresAreWills.class;
    checks.holds("the class is public and final",
        Modifier.isPublic(type.getModifiers()) && Modifier.isFinal(type.getModifiers()));
    Constructor<?>[] made = type.getDeclaredConstructors();
    checks.holds("one public constructor of nothing", made.length == 1
        && Modifier.isPublic(made[0].getModifiers()) && made[0].getParameterCount() == 0);
    Map<String, String> found = new TreeMap<>();
    for (Method method : type.getDeclaredMethods()) {
      if (Modifier.isPrivate(method.getModifiers())) {
        checks.holds("private " + method.getName() + " bears a public name",
            !told().containsKey(method.getName()));
        continue;
      }
      checks.holds(method.getName() + " is public and of objects",
          Modifier.isPublic(method.getModifiers()) && !Modifier.isStatic(method.getModifiers()));
      for (Class<?> takes : method.getParameterTypes()) {
        checks.holds(method.getName() + " takes ints", takes == int.class);
      }
      found.put(method.getName(), method.getReturnType() + " " + method.getParameterCount());
    }
    checks.due("methods of the face", told().size(), 36);
    checks.holds("the face is " + told() + ", found " + found, told().equals(found));
    for (Field field : type.getDeclaredFields()) privateField(field);
  }

  private void privateField(Field field) {
    checks.holds(field.getName() + " is private", Modifier.isPrivate(field.getModifiers()));
    checks.holds(field.getName() + ", if static, is final",
        !Modifier.isStatic(field.getModifiers()) || Modifier.isFinal(field.getModifiers()));
  }

  private void insides() {
    Class<?>[] inside = CoresAreWills.class.getDeclaredClasses();
    checks.holds("some twelve classes", inside.length <= 12);
    for (Class<?> type : inside) {
      int is = type.getModifiers();
      checks.holds(type.getName() + " is static and of the file alone",
          Modifier.isStatic(is) && !Modifier.isPublic(is) && !Modifier.isProtected(is));
      int own = 0;
      for (Field field : type.getDeclaredFields()) {
        boolean isStatic = Modifier.isStatic(field.getModifiers());
        if (!isStatic) own++;
        checks.holds(field.getName() + ", if static, is final",
            !isStatic || Modifier.isFinal(field.getModifiers()));
      }
      checks.holds(type.getName() + " has some twenty fields", own <= 20);
    }
  }

  private static String withoutComments(String source) {
    return source.replaceAll("(?s)/\\*.*?\\*/", "").replaceAll("//[^\\n]*", "");
  }

  private void source(String whole) {
    String source = withoutComments(whole);
    for (String forbidden : FORBIDDEN) {
      Matcher found = Pattern.compile(forbidden).matcher(source);
      checks.holds("no " + forbidden + " in the source", !found.find());
    }
    // Rows are made with the object: no call makes one.
    Matcher made = Pattern.compile("(?m)^(.*)\\bnew\\b").matcher(source);
    while (made.find()) {
      checks.holds("made with the object: " + made.group(1).trim(),
          made.group(1).matches(" {2,4}(private )?(final )?[A-Za-z]+(\\[\\])? [A-Za-z]+ = "));
    }
    TreeSet<String> library = new TreeSet<>();
    Matcher call = Pattern.compile("\\b(Integer|Long|Math|Arrays|System)\\.(\\w+)").matcher(source);
    while (call.find()) library.add(call.group());
    TreeSet<String> allowed = new TreeSet<>(List.of(
        "Integer.bitCount", "Math.abs", "Math.max", "Math.min", "System.arraycopy"));
    checks.holds("of the library only " + allowed + ", found " + library,
        allowed.containsAll(library));
  }

  private void lengths(List<String> lines) {
    int start = -1;
    for (int i = 0; i < lines.size(); i++) {
      String line = lines.get(i);
      checks.holds("line " + (i + 1) + " is at most 100 long", line.length() <= 100);
      if (line.matches("( {2}| {4})[a-z].*\\) \\{") && !line.contains(" new ")) start = i;
      if (start < 0 || !line.matches("( {2}| {4})\\}")) continue;
      checks.holds("method at line " + (start + 1) + " is short", i - start < 60);
      start = -1;
    }
  }

  /** The methods that each method calls; those of the same name are taken as one. */
  private Map<String, TreeSet<String>> calls(String source) {
    Map<String, TreeSet<String>> calls = new TreeMap<>();
    Map<String, String> bodies = new TreeMap<>();
    Matcher method = Pattern.compile("(?ms)^( {2}| {4})[a-z][\\w \\[\\]]*? (\\w+)\\(([^()]*)\\) \\{$"
        + "(.*?)^\\1\\}$").matcher(source);
    while (method.find()) {
      int takes = method.group(3).isEmpty() ? 0 : method.group(3).split(",").length;
      checks.holds(method.group(2) + " takes at most seven", takes <= 7);
      bodies.merge(method.group(2), method.group(4), String::concat);
    }
    for (String name : bodies.keySet()) {
      TreeSet<String> called = new TreeSet<>();
      Matcher call = Pattern.compile("\\b(\\w+)\\(").matcher(bodies.get(name));
      while (call.find()) if (bodies.containsKey(call.group(1))) called.add(call.group(1));
      calls.put(name, called);
    }
    return calls;
  }

  private static int depth(String name, Map<String, TreeSet<String>> calls, int open) {
    if (open > calls.size()) return open;
    int deepest = 1;
    for (String called : calls.get(name)) {
      deepest = Math.max(deepest, 1 + depth(called, calls, open + 1));
    }
    return deepest;
  }

  private void depths(String source) {
    Map<String, TreeSet<String>> calls = calls(source);
    checks.holds("all of the face are found", calls.keySet().containsAll(told().keySet()));
    for (String name : calls.keySet()) {
      int depth = depth(name, calls, 1);
      checks.holds(name + " goes " + depth + " deep", depth <= 8);
    }
  }
}
