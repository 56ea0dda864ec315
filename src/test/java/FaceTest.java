import java.lang.reflect.Constructor;
import java.lang.reflect.Method;
import java.lang.reflect.Modifier;
import java.util.List;
import java.util.TreeSet;

/** The public face is the one that the document tells, no more and no less. */
public final class FaceTest {
  private final Checks checks = new Checks("FaceTest");
  private final Document document = new Document();

  public static void main(String[] args) {
    FaceTest test = new FaceTest();
    test.type();
    test.constructor();
    test.methods();
    test.promises();
    test.checks.ends();
  }

  private void type() {
    int is = CoresAreWills.class.getModifiers();
    checks.holds("the class is public and final", Modifier.isPublic(is) && Modifier.isFinal(is));
    checks.holds("and stands under nothing", CoresAreWills.class.getSuperclass() == Object.class
        && CoresAreWills.class.getInterfaces().length == 0);
  }

  private void constructor() {
    Constructor<?>[] made = CoresAreWills.class.getDeclaredConstructors();
    checks.holds("one public constructor of nothing", made.length == 1
        && Modifier.isPublic(made[0].getModifiers()) && made[0].getParameterCount() == 0);
  }

  /** Its types and name, as "long mean(int)". */
  private static String told(Method method) {
    StringBuilder told = new StringBuilder();
    told.append(method.getReturnType()).append(' ').append(method.getName()).append('(');
    for (Class<?> takes : method.getParameterTypes()) {
      if (told.charAt(told.length() - 1) != '(') told.append(", ");
      told.append(takes);
    }
    return told.append(')').toString();
  }

  private void methods() {
    TreeSet<String> due = new TreeSet<>();
    for (String signature : document.face()) due.add(withoutNames(signature));
    TreeSet<String> found = new TreeSet<>();
    for (Method method : CoresAreWills.class.getDeclaredMethods()) {
      int is = method.getModifiers();
      if (Modifier.isPrivate(is)) continue;
      checks.holds(method + " is public and of objects",
          Modifier.isPublic(is) && !Modifier.isStatic(is));
      checks.due(method + " throws", method.getExceptionTypes().length, 0);
      found.add(told(method));
    }
    checks.due("methods of the face", due.size(), 36);
    checks.holds("the face is " + due + ", found " + found, due.equals(found));
  }

  private static String withoutNames(String signature) {
    return signature.replaceAll("\\bint \\w+(?=[,)])", "int");
  }

  /** Promise 1 is of the constructor; the others are of the face's methods, in their order. */
  private void promises() {
    List<String> face = document.face();
    for (int promise = 2; promise <= Document.PROMISES; promise++) {
      String signature = promise - 2 < face.size() ? face.get(promise - 2) : "nothing";
      checks.holds("promise " + promise + " is of " + signature,
          document.says(promise, "`" + signature + "`"));
    }
  }
}
