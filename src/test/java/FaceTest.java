import java.lang.reflect.Array;
import java.lang.reflect.Constructor;
import java.lang.reflect.Field;
import java.lang.reflect.Method;
import java.lang.reflect.Modifier;
import java.util.ArrayList;
import java.util.Arrays;
import java.util.Collections;
import java.util.IdentityHashMap;
import java.util.List;
import java.util.Set;
import java.util.TreeSet;

/** The public face is the document's, and an object takes little of the room. */
public final class FaceTest {
  private static int wrong = 0;
  private static void due(boolean ok, String what) { if (!ok) { wrong++; System.out.println(what); } }

  private static final String[] FACE = {
    "int sign(int)", "boolean end(int)", "int makes(int, int, int, int)", "int sets(int, int, int)", "int roots(int, int)",
    "int weaks(int, int)", "int wakes(int, int)", "int trial()", "int limit(int)", "int object(int, int)", "int field(int, int)",
    "int root(int)", "int all(int)", "int list()", "int holders(int)", "int way(int)", "int from(int)", "int rings()",
    "int alone(int)", "int keepers(int)", "int cut(int, int)", "int would()", "int settles()", "int ranks(int)",
    "int log(int, int)", "int logged(int)", "int day()", "int undo()", "int years(int, int)", "boolean keep(int)",
    "boolean again(int)", "int count(int)", "long row(int)"};

  public static void main(String[] args) throws Exception {
    face();
    room();
    System.out.println(wrong == 0 ? "FaceTest: all is as due" : "FaceTest: " + wrong + " wrong");
    if (wrong != 0) System.exit(1);
  }

  private static String told(Method m) {
    List<String> types = new ArrayList<>();
    for (Class<?> c : m.getParameterTypes()) types.add(c.getSimpleName());
    return m.getReturnType().getSimpleName() + " " + m.getName() + "(" + String.join(", ", types) + ")";
  }

  private static void face() {
    due(Modifier.isFinal(CountedHeap.class.getModifiers()) && Modifier.isPublic(CountedHeap.class.getModifiers()), "the class is not public and final");
    TreeSet<String> want = new TreeSet<>(Arrays.asList(FACE));
    TreeSet<String> got = new TreeSet<>();
    for (Method m : CountedHeap.class.getDeclaredMethods()) {
      if (Modifier.isPublic(m.getModifiers())) { got.add(told(m)); due(!Modifier.isStatic(m.getModifiers()), m + " is static"); }
      else due(Modifier.isPrivate(m.getModifiers()), m + " is not private");
    }
    due(got.equals(want), "the face is " + got);
    for (Field f : CountedHeap.class.getDeclaredFields()) {
      if (f.getName().equals("NONE")) due(f.getModifiers() == (Modifier.PUBLIC | Modifier.STATIC | Modifier.FINAL) && f.getType() == int.class, "NONE is " + f);
      else due(Modifier.isPrivate(f.getModifiers()), f + " is not private");
    }
    Constructor<?>[] made = CountedHeap.class.getDeclaredConstructors();
    due(made.length == 1 && Modifier.isPublic(made[0].getModifiers()) && made[0].getParameterCount() == 0, "constructors: " + Arrays.toString(made));
  }

  // One room holds 600,000 objects and arrays, 7.3 million fields and elements: a hundred objects of the class take a tenth of it.
  private static final int MOST_OBJECTS = 600;
  private static final int MOST_ELEMENTS = 7300;

  /** What an object of the class is made of, ahead of all calls and behind many: calls make nothing that stays. */
  private static void room() throws Exception {
    CountedHeap h = new CountedHeap();
    int[] made = sizeOf(h);
    due(made[0] <= MOST_OBJECTS && made[1] <= MOST_ELEMENTS, "an object takes " + made[0] + " objects, " + made[1] + " fields and elements");
    for (int n = 0; n < 60; n++) {
      h.makes(2, 1, n % 8, n % 6); h.sets(n % 24, 0, n * 7 % 24); h.weaks(n % 4, n % 24); h.trial(); h.sign(0x74747474); h.day();
      h.keep(n & 1); h.years(n, 40);
    }
    int[] used = sizeOf(h);
    due(Arrays.equals(made, used), "it takes " + used[0] + " objects, " + used[1] + " fields and elements behind 480 calls, not " + made[0] + ", " + made[1]);
  }

  private static int[] sizeOf(Object start) throws Exception {
    Set<Object> seen = Collections.newSetFromMap(new IdentityHashMap<>());
    List<Object> waiting = new ArrayList<>();
    waiting.add(start); seen.add(start);
    int elements = 0;
    for (int n = 0; n < waiting.size(); n++) {
      Object o = waiting.get(n);
      List<Object> parts = new ArrayList<>();
      if (o.getClass().isArray()) {
        elements += Array.getLength(o);
        if (o instanceof Object[] many) parts.addAll(Arrays.asList(many));
      } else {
        for (Field f : o.getClass().getDeclaredFields()) {
          if (Modifier.isStatic(f.getModifiers())) continue;
          elements++;
          f.setAccessible(true);
          if (!f.getType().isPrimitive()) parts.add(f.get(o));
        }
      }
      for (Object part : parts) if (part != null && seen.add(part)) waiting.add(part);
    }
    return new int[] {seen.size(), elements};
  }
}
