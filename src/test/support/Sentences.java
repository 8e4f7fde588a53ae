import java.lang.annotation.ElementType;
import java.lang.annotation.Retention;
import java.lang.annotation.RetentionPolicy;
import java.lang.annotation.Target;
import java.lang.reflect.InvocationTargetException;
import java.lang.reflect.Method;
import java.nio.file.Files;
import java.nio.file.Path;
import java.util.ArrayList;
import java.util.List;
import java.util.NoSuchElementException;
import java.util.TreeMap;
import java.util.regex.Matcher;
import java.util.regex.Pattern;

/** Runs tests each of which holds one sentence of the document to its word, and sees that no sentence is without one. */
final class Sentences {
  /** The sentence, word by word; promise 0 is Terms. */
  @Retention(RetentionPolicy.RUNTIME) @Target(ElementType.METHOD)
  @interface Says { int promise() default 0; String[] value(); }

  interface Setup { void on(CountedHeap h); }
  interface Call { long on(CountedHeap h); }
  interface IntCall { long on(CountedHeap h, int v); }

  private static final Pattern REFUSALS =
      Pattern.compile("(NONE|-[234]|-1 - p|NoSuchElementException|Refused): [^.;)]*|false if [^.;)]*|NONE for [^.;)]*");
  private static final int[] ANY = {
      Integer.MIN_VALUE, Integer.MIN_VALUE + 1, -1 << 30, -65536, -257, -256, -255, -100, -99, -64, -33, -32, -31, -25, -24, -23,
      -10, -9, -8, -7, -6, -5, -4, -3, -2, -1, 0, 1, 2, 3, 4, 5, 6, 7, 8, 9, 10, 11, 12, 15, 16, 20, 23, 24, 25, 26, 31, 32, 33, 34,
      36, 37, 38, 40, 41, 42, 55, 56, 63, 64, 65, 66, 96, 98, 99, 100, 127, 128, 255, 256, 257, 260, 65535, 65536, 65537,
      1 << 24, 1 << 30, Integer.MAX_VALUE - 1, Integer.MAX_VALUE};

  private static String where = "";
  private static int checks;
  private static int wrong;

  private Sentences() { }

  static void run(Class<?> tests, int first, int last) throws Exception {
    TreeMap<Integer, String> document = sections();
    List<Method> methods = new ArrayList<>();
    for (Method m : tests.getDeclaredMethods()) if (m.isAnnotationPresent(Says.class)) methods.add(m);
    methods.sort((a, b) -> {
      int byPromise = a.getAnnotation(Says.class).promise() - b.getAnnotation(Says.class).promise();
      return byPromise != 0 ? byPromise : a.getName().compareTo(b.getName());
    });
    for (Method m : methods) runOne(m, document);
    for (int n = first; n <= last; n++) seesThatEachIsHeld(n, document.getOrDefault(n, ""), methods);
    System.out.println(tests.getSimpleName() + ": " + methods.size() + " sentences, " + checks + " checks, " + wrong + " wrong");
    if (wrong != 0) System.exit(1);
  }

  private static void runOne(Method m, TreeMap<Integer, String> document) throws Exception {
    Says says = m.getAnnotation(Says.class);
    where = (says.promise() == 0 ? "terms" : "promise " + says.promise()) + ", " + m.getName();
    for (String sentence : says.value())
      if (!document.getOrDefault(says.promise(), "").contains(sentence)) fails("the document does not say '" + sentence + "'");
    int before = checks;
    try { m.invoke(null); }
    catch (InvocationTargetException e) { fails("threw " + e.getCause()); e.getCause().printStackTrace(System.out); }
    if (checks == before) fails("checks nothing");
  }

  /** Each refusal that a promise names, and each promise, has a test that cites it. */
  private static void seesThatEachIsHeld(int promise, String section, List<Method> methods) {
    where = "promise " + promise;
    List<String> cited = new ArrayList<>();
    for (Method m : methods) {
      Says says = m.getAnnotation(Says.class);
      if (says.promise() == promise) for (String s : says.value()) cited.add(s);
    }
    if (cited.isEmpty()) fails("no sentence has a test");
    Matcher refusal = REFUSALS.matcher(section);
    while (refusal.find()) {
      boolean held = false;
      for (String s : cited) held |= s.contains(refusal.group().trim());
      if (!held) fails("no test for '" + refusal.group() + "'");
    }
  }

  private static TreeMap<Integer, String> sections() throws Exception {
    String text = Files.readString(Path.of("../shared/DOC.md"));
    TreeMap<Integer, String> out = new TreeMap<>();
    for (String part : text.split("\n## ")) {
      String flat = part.replaceAll("\\s+", " ");
      if (part.startsWith("Promise ")) out.put(Integer.parseInt(part.substring(8, part.indexOf(':'))), flat);
      else out.merge(0, flat, (a, b) -> a + " " + b);
    }
    return out;
  }

  static void fails(String what) { wrong++; System.out.println(where + ": " + what); }

  static void due(String call, long got, long want) {
    checks++;
    if (got != want) fails(call + " answered " + got + ", due is " + want);
  }
  static void due(String call, boolean got, boolean want) { due(call, got ? 1 : 0, want ? 1 : 0); }
  static void same(String what, String got, String want) {
    checks++;
    if (!got.equals(want)) fails(what + "\n" + got + "due is\n" + want);
  }
  static void row(CountedHeap h, long... want) {
    due("numbers of the ROW", h.count(6), want.length);
    for (int i = 0; i < want.length && i < h.count(6); i++) due("row(" + i + ")", h.row(i), want[i]);
  }
  static void list(CountedHeap h, long... want) { due("list()", h.list(), want.length); row(h, want); }
  /** THE LOG from a row on to its end: kind, OBJECT, kind, OBJECT, .. */
  static void log(CountedHeap h, int from, int... want) {
    due("rows of THE LOG", h.count(4), from + want.length / 2);
    for (int n = 0; n < want.length / 2 && from + n < h.count(4); n++) {
      due("log(" + (from + n) + ", 0)", h.log(from + n, 0), want[2 * n]);
      due("log(" + (from + n) + ", 1)", h.log(from + n, 1), want[2 * n + 1]);
    }
  }

  static int[] outside(int least, int most) {
    List<Integer> out = new ArrayList<>();
    for (int v : ANY) if (v < least || v > most) out.add(v);
    return out.stream().mapToInt(Integer::intValue).toArray();
  }

  static CountedHeap made(Setup setup) { CountedHeap h = new CountedHeap(); setup.on(h); return h; }

  /** The answer is due, and all else is as in a twin that was not asked, what can be undone too. */
  static void refused(Setup setup, String call, long want, Call c) {
    CountedHeap h = made(setup);
    due(call, c.on(h), want);
    int undone = h.count(5);
    same(call + " changed", Heaps.told(h), Heaps.told(made(setup)));
    for (int n = 1; n <= undone; n++) {
      CountedHeap g = made(setup), twin = made(setup);
      c.on(g);
      for (int k = 0; k < n; k++) { g.undo(); twin.undo(); }
      same(call + " and undo() " + n + " times", Heaps.told(g), Heaps.told(twin));
    }
  }

  /** Each number that is not least .. most is answered so, and changes nothing. */
  static void refusedOutside(Setup setup, String call, int least, int most, long want, IntCall c) {
    CountedHeap h = made(setup);
    for (int v : outside(least, most)) due(call + " of " + v, c.on(h, v), want);
    same(call + " changed", Heaps.told(h), Heaps.told(made(setup)));
  }

  /** NoSuchElementException, and nothing is changed by that. */
  static void none(Setup setup, String call, Call c) {
    CountedHeap h = made(setup);
    throwsNone(call, h, c);
    same(call + " changed", Heaps.told(h), Heaps.told(made(setup)));
  }
  static void noneOutside(Setup setup, String call, int least, int most, IntCall c) {
    CountedHeap h = made(setup);
    for (int v : outside(least, most)) throwsNone(call + " of " + v, h, x -> c.on(x, v));
    same(call + " changed", Heaps.told(h), Heaps.told(made(setup)));
  }
  static void throwsNone(String call, CountedHeap h, Call c) {
    checks++;
    try { fails(call + " answered " + c.on(h) + ", due is NoSuchElementException"); }
    catch (NoSuchElementException e) { if (e.getClass() != NoSuchElementException.class) fails(call + " threw " + e); }
    catch (RuntimeException e) { fails(call + " threw " + e); }
  }

  /** A question: the answer is due, and nothing is changed but the ROW. */
  static void asks(Setup setup, String call, long want, Call c, long... row) {
    CountedHeap h = made(setup), twin = made(setup);
    due(call, c.on(h), want);
    row(h, row);
    h.list(); twin.list();
    same(call + " changed", Heaps.told(h), Heaps.told(twin));
  }
}
