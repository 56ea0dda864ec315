import java.lang.management.ManagementFactory;
import java.lang.reflect.Array;
import java.lang.reflect.Field;
import java.lang.reflect.Modifier;

/** An object is small and calls make no objects, so that a run of any length fits its room. */
public final class RoomTest {
  private static final int ROUNDS = 20;
  private static final int BYTES_OF_THE_SMALLEST_OBJECT = 16;
  private static final int OBJECTS = 30;
  private static final int FIELDS_AND_ELEMENTS = 600;

  private final Checks checks = new Checks("RoomTest");
  private long sum = 0;
  private int objects = 0;
  private int parts = 0;

  public static void main(String[] args) throws IllegalAccessException {
    RoomTest test = new RoomTest();
    test.object();
    test.calls();
    test.checks.ends();
  }

  private void object() throws IllegalAccessException {
    counts(new CoresAreWills());
    checks.holds("an object is of " + objects + " objects and arrays",
        objects > 1 && objects <= OBJECTS);
    checks.holds("an object is of " + parts + " fields and elements",
        parts > 1 && parts <= FIELDS_AND_ELEMENTS);
  }

  /** What is reached from an object is its own, each reached once. */
  private void counts(Object object) throws IllegalAccessException {
    objects++;
    if (object.getClass().isArray()) {
      parts += Array.getLength(object);
      return;
    }
    for (Field field : object.getClass().getDeclaredFields()) {
      if (Modifier.isStatic(field.getModifiers())) continue;
      parts++;
      field.setAccessible(true);
      if (!field.getType().isPrimitive()) counts(field.get(object));
    }
  }

  private void calls() {
    com.sun.management.ThreadMXBean bean =
        (com.sun.management.ThreadMXBean) ManagementFactory.getThreadMXBean();
    CoresAreWills x = new CoresAreWills();
    // The first rounds load what the machine itself makes of the class.
    for (int round = 0; round < ROUNDS; round++) calls(x);
    long before = bean.getCurrentThreadAllocatedBytes();
    for (int round = 0; round < ROUNDS; round++) calls(x);
    long bytes = bean.getCurrentThreadAllocatedBytes() - before;
    checks.holds(ROUNDS + " rounds made " + bytes + " bytes",
        bytes < ROUNDS * BYTES_OF_THE_SMALLEST_OBJECT);
    checks.holds("something was answered", sum != 0);
  }

  private void calls(CoresAreWills x) {
    String told = "hp0;hk4;b300;b012;l06;r1;n;b111;b013;b014;b010;";
    for (int i = 0; i < told.length(); i++) sum += x.letter(told.charAt(i));
    sum += x.core() + x.image() + x.on() + x.row(3) + x.whatIs(0, 0) + x.whatIs(1, 1) + x.judge();
    sum += x.fewest(0, 40, 0) + x.fewest(1, 12, 1) + x.two(0, 1) + x.grudge(0) + x.gain(1, 0);
    sum += x.best(0, 1) + x.worst(1, 0) + x.safe() + x.can(-1) + x.ways(0) + x.alike(1);
    sum += x.settles(0) + x.pips(0) + x.join(12) + x.bridge(1) + x.bridge(2) + x.edge(1);
    sum += x.chance(0, 2, 3, 0) + x.mean(1) + x.lots(20, 5, 0) + x.count(4) + x.shares(1);
    sum += x.pieces(2) + x.cell(3, 2) + x.heir(0, 2) + x.turn(0, 4, 1) + x.rolls(2) + x.anew();
    sum += x.bites(0, 7) + x.heals(7) + x.row(100) + x.clear();
  }
}
