import java.lang.reflect.InvocationTargetException;
import java.lang.reflect.Method;
import java.util.ArrayList;
import java.util.Arrays;
import java.util.Collections;
import java.util.LinkedHashSet;
import java.util.List;
import java.util.NoSuchElementException;
import java.util.Random;
import java.util.TreeSet;

/**
 * Runs of calls drawn by a seed, on the class and on a second, plain writing of the document
 * (recursive, with counts that are told anew each time); each answer and the whole ROW must be alike.
 */
public final class ModelTest {
  private static final int RUNS = 6000;
  private static final int CALLS = 512;
  private static int wrong = 0;

  public static void main(String[] args) throws Exception {
    int runs = args.length > 0 ? Integer.parseInt(args[0]) : RUNS;
    int from = args.length > 1 ? Integer.parseInt(args[1]) : 0;
    for (int run = from; run < from + runs && wrong < 5; run++) new ModelTest(run).run();
    System.out.println(wrong == 0 ? "ModelTest: all answers are alike" : "ModelTest: " + wrong + " runs differ");
    if (wrong != 0) System.exit(1);
  }

  private static final Method[] FACE = faceOf(CountedHeap.class);
  private static final Method[] MODEL = faceOf(Model.class);

  private static Method[] faceOf(Class<?> c) {
    List<Method> out = new ArrayList<>();
    for (Method m : c.getDeclaredMethods()) if (java.lang.reflect.Modifier.isPublic(m.getModifiers())) out.add(m);
    out.sort((a, b) -> a.getName().compareTo(b.getName()));
    for (Method m : out) m.setAccessible(true);
    return out.toArray(new Method[0]);
  }

  private final int seed;
  private final Random random;
  private final CountedHeap heap = new CountedHeap();
  private final Model model = new Model();
  private final StringBuilder told = new StringBuilder();
  private final int fewEnds;
  private final int fewMakes;
  private boolean alike = true;
  private int calls = 0;

  private ModelTest(int seed) {
    this.seed = seed;
    this.random = new Random(seed * 7919L + 5);
    this.fewEnds = random.nextInt(3);
    this.fewMakes = random.nextInt(3);
  }

  private void run() throws Exception {
    while (calls < CALLS && alike) step();
    if (!alike) { wrong++; System.out.println("run " + seed + ":\n" + told); }
  }

  private int any(int n) { return random.nextInt(n); }
  private int wild() { int[] w = {-1, -2, 24, 25, 32, 33, -32, 99, Integer.MIN_VALUE, Integer.MAX_VALUE, 4, 6, 10}; return w[any(w.length)]; }
  private int or(int v) { return any(40) == 0 ? wild() : v; }
  private int obj() { return or(pick(model.h.numbers(), 24)); }
  private int reached() { return or(pick(new ArrayList<>(model.h.reached()), 24)); }
  private int objOrNone() { return any(4) == 0 ? -1 : reached(); }
  private int pick(List<Integer> from, int n) { return from.isEmpty() || any(30) == 0 ? any(n) : from.get(any(from.size())); }
  private int end() { return any(fewEnds + 1) != 0 ? 0 : any(8); }

  private void step() throws Exception {
    int what = any(100);
    if (what < 12 - 3 * fewMakes) call("makes", or(any(5)), or(1 + any(9)), or(end()), or(any(6)));
    else if (what < 36) call("sets", any(9) == 0 ? obj() : reached(), or(any(4)), any(9) == 0 ? obj() : objOrNone());
    else if (what < 44) call("roots", or(any(6)), any(3) == 0 ? objOrNone() : -1);
    else if (what < 48) call("weaks", or(any(4)), objOrNone());
    else if (what < 52) call("wakes", or(any(4)), or(any(6)));
    else if (what < 56) call("trial");
    else if (what < 58) call("limit", or(any(3) == 0 ? 24 : 1 + any(24)));
    else if (what < 62) day();
    else if (what < 64) call("undo");
    else if (what < 65) call(any(2) == 0 ? "keep" : "again", or(any(2)));
    else if (what < 66) { if (any(2) == 0) call("again", any(2)); else for (int n = any(10); n > 0; n--) call("undo"); }
    else if (what < 69) call("years", random.nextInt(), or(1 + any(40)));
    else question();
  }

  private void question() throws Exception {
    switch (any(18)) {
      case 0: call("object", obj(), or(any(7))); break;
      case 1: call("field", obj(), or(any(4))); break;
      case 2: call("root", or(any(10))); break;
      case 3: call("all", or(any(4))); break;
      case 4: call("list"); break;
      case 5: call("holders", obj()); break;
      case 6: call("way", obj()); break;
      case 7: call("from", obj()); break;
      case 8: call("rings"); break;
      case 9: call("alone", obj()); break;
      case 10: call("keepers", obj()); break;
      case 11: call("cut", obj(), or(any(4))); break;
      case 12: call("would"); break;
      case 13: call("settles"); break;
      case 14: call("ranks", or(any(3))); break;
      case 15: call("log", or(model.h.log.size() - 1 - any(62)), or(any(2))); break;
      case 16: call("logged", or(any(6))); break;
      default: call("count", or(any(8))); call("row", or(any(5))); break;
    }
  }

  private void day() throws Exception {
    StringBuilder s = new StringBuilder();
    for (int n = any(8); n > 0; n--) s.append(dayAct());
    if (s.length() > 0 && any(6) == 0) s.setLength(any(s.length()));
    if (s.length() > 0 && any(6) == 0) s.setCharAt(any(s.length()), (char) any(256));
    for (int p = 0; p < s.length(); p += 4) {
      int v = 0;
      for (int q = p; q < p + 4; q++) v = v << 8 | (q < s.length() ? s.charAt(q) : any(256));
      call("sign", v);
    }
    if (any(20) == 0) call("sign", random.nextInt());
    call("end", any(30) == 0 ? any(90) - 5 : s.length());
    if (any(20) != 0) call("day");
  }

  private String dayAct() {
    switch (any(6)) {
      case 0: return "n" + any(5) + (1 + any(9)) + end() + any(6);
      case 1: return "s" + two(reached()) + any(3) + two(objOrNone());
      case 2: return "r" + any(6) + two(objOrNone());
      case 3: return "w" + any(4) + two(objOrNone());
      case 4: return "k" + any(4) + any(6);
      default: return "t";
    }
  }
  private static String two(int v) { return v < 0 || v > 99 ? "99" : v < 10 ? "0" + v : "" + v; }

  /** Calls that ask for the ROW count too: an object is used for so many alone. */
  private void call(String name, int... args) throws Exception {
    if (!alike || calls >= CALLS) return;
    Object[] boxed = new Object[args.length];
    for (int i = 0; i < args.length; i++) boxed[i] = args[i];
    List<Long> was = model.row;
    calls++;
    String got = answer(FACE, heap, name, boxed);
    String due = answer(MODEL, model, name, boxed);
    if (model.row != was || any(8) == 0) { got += " " + rowOf(); due += " " + model.row; }
    told.append("  ").append(name).append(Arrays.toString(args)).append(" = ").append(got).append('\n');
    if (calls <= CALLS && !got.equals(due)) { alike = false; told.append("  due is ").append(due).append('\n'); }
  }

  private static String answer(Method[] face, Object on, String name, Object[] args) throws Exception {
    for (Method m : face) {
      if (!m.getName().equals(name)) continue;
      try { return String.valueOf(m.invoke(on, args)); }
      catch (InvocationTargetException e) {
        if (on instanceof Model && !(e.getCause() instanceof NoSuchElementException)) throw e;
        return e.getCause().getClass().getName();
      }
    }
    throw new IllegalStateException(name);
  }

  private List<Long> rowOf() {
    List<Long> out = new ArrayList<>();
    int size = heap.count(6);
    for (int i = 0; i < size; i++) out.add(heap.row(i));
    calls += 1 + size;
    return out;
  }

  /** An object of the model. */
  static final class Thing {
    int number, weight, end; boolean ran; Thing[] fields;
  }

  /** All that Terms 1 tells of. */
  static final class State {
    final Thing[] things = new Thing[24];
    final Thing[] roots = new Thing[6];
    final Thing[] weak = new Thing[4];
    final List<Integer> list = new ArrayList<>();
    final TreeSet<Integer> meant = new TreeSet<>();
    int limit = 24;
    final List<int[]> log = new ArrayList<>();
    int visits;

    State copy() {
      State s = new State();
      for (Thing t : things) if (t != null) {
        Thing c = new Thing(); c.number = t.number; c.weight = t.weight; c.end = t.end; c.ran = t.ran;
        c.fields = new Thing[t.fields.length]; s.things[t.number] = c;
      }
      for (Thing t : things) if (t != null) for (int k = 0; k < t.fields.length; k++) s.things[t.number].fields[k] = s.same(t.fields[k]);
      for (int r = 0; r < 6; r++) s.roots[r] = s.same(roots[r]);
      for (int w = 0; w < 4; w++) s.weak[w] = s.same(weak[w]);
      s.list.addAll(list); s.meant.addAll(meant); s.limit = limit; s.log.addAll(log);
      return s;
    }
    Thing same(Thing t) { return t == null ? null : things[t.number]; }

    List<Integer> numbers() { List<Integer> out = new ArrayList<>(); for (Thing t : things) if (t != null) out.add(t.number); return out; }
    Thing thing(int i) { return i < 0 || i > 23 ? null : things[i]; }
    int count(Thing of) {
      int n = 0;
      for (Thing t : things) if (t != null) for (Thing f : t.fields) if (f == of) n++;
      for (Thing r : roots) if (r == of) n++;
      return n;
    }
    int logged(int kind) { int n = 0; for (int[] row : log) if (row[0] == kind) n++; return n; }
    void log(int kind, Thing t) { log.add(new int[] {kind, t.number}); }

    TreeSet<Integer> reached() { return reached(0, -1); }
    TreeSet<Integer> reached(int withoutRoots, int without) {
      TreeSet<Integer> seen = new TreeSet<>();
      for (int r = 0; r < 6; r++) if ((withoutRoots >> r & 1) == 0) walk(roots[r], without, seen);
      return seen;
    }
    void walk(Thing t, int without, TreeSet<Integer> seen) {
      if (t == null || t.number == without || !seen.add(t.number)) return;
      for (Thing f : t.fields) walk(f, without, seen);
    }

    void off(Thing t) { list.remove((Object) t.number); meant.remove(t.number); }
    void suspect(Thing t) { if (!list.contains(t.number)) list.add(t.number); meant.add(t.number); }

    void layField(Thing t, int k, Thing to) { Thing old = t.fields[k]; t.fields[k] = to; up(to); down(old); }
    void layRoot(int r, Thing to) { Thing old = roots[r]; roots[r] = to; up(to); down(old); }
    void up(Thing t) { if (t != null) meant.remove(t.number); }
    /** The reference to it has been taken away already. */
    void down(Thing t) {
      if (t == null) return;
      if (count(t) > 0) { if (t.fields.length > 0) suspect(t); return; }
      off(t);
      if (t.end != 0 && !t.ran) { if (runEnd(t)) return; }
      log(1, t);
      for (int k = 0; k < t.fields.length; k++) { Thing f = t.fields[k]; t.fields[k] = null; down(f); }
      gone(t);
    }
    boolean runEnd(Thing t) {
      t.ran = true; log(3, t);
      if (t.end < 2) return false;
      log(4, t); layRoot(t.end - 2, t);
      return true;
    }
    void gone(Thing t) {
      for (int w = 0; w < 4; w++) if (weak[w] == t) { weak[w] = null; log(5, t); }
      things[t.number] = null;
    }

    char[] colour; int[] counts;
    void paint(Thing t, char c) { colour[t.number] = c; visits++; }
    void gray(Thing t) {
      if (t == null || colour[t.number] == 'g') return;
      paint(t, 'g');
      for (Thing f : t.fields) if (f != null) { counts[f.number]--; gray(f); }
    }
    void look(Thing t) {
      if (t == null || colour[t.number] != 'g') return;
      if (counts[t.number] > 0) { giveBack(t); return; }
      paint(t, 'w');
      for (Thing f : t.fields) look(f);
    }
    void giveBack(Thing t) {
      paint(t, 'b');
      for (Thing f : t.fields) if (f != null) { counts[f.number]++; if (colour[f.number] != 'b') giveBack(f); }
    }
    void trial() {
      visits = 0; colour = new char[24]; counts = new int[24];
      for (Thing t : things) if (t != null) counts[t.number] = count(t);
      for (int i : new ArrayList<>(list)) if (meant.contains(i)) gray(things[i]); else list.remove((Object) i);
      for (int i : list) look(things[i]);
      list.clear(); meant.clear();
      List<Thing> white = new ArrayList<>();
      boolean ends = false;
      for (Thing t : things) if (t != null && colour[t.number] == 'w') { white.add(t); ends |= t.end != 0 && !t.ran; }
      if (!ends) {
        for (Thing t : white) { log(2, t); for (int k = 0; k < t.fields.length; k++) t.fields[k] = null; gone(t); }
        return;
      }
      for (Thing t : white) if (things[t.number] == t && t.end != 0 && !t.ran) runEnd(t);
      for (Thing t : white) if (things[t.number] == t && t.fields.length > 0 && !list.contains(t.number)) suspect(t);
    }
    void behind() { if (list.size() >= limit) trial(); }

    int weight(Iterable<Integer> of) { int sum = 0; for (int i : of) sum += things[i].weight; return sum; }
    TreeSet<Integer> alone(int i) { TreeSet<Integer> a = reached(); a.removeAll(reached(0, i)); return a; }
  }

  /** The face, as the document tells it. */
  static final class Model {
    State h = new State();
    List<Long> row = new ArrayList<>();
    String text = "";
    final List<State> past = new ArrayList<>();
    final State[] kept = new State[2];
    int drawn;

    private void tell(long... v) { row = new ArrayList<>(); for (long x : v) row.add(x); }
    private static int bits(Iterable<Integer> of) { int b = 0; for (int i : of) b |= 1 << i; return b; }
    private static boolean in(int v, int a, int b) { return v >= a && v <= b; }
    private void remember(State was) { past.add(was); if (past.size() > 8) past.remove(0); }

    public int sign(int v) {
      if (text.length() + 4 > 80) return -1;
      for (int b = 3; b >= 0; b--) text += (char) (v >> 8 * b & 255);
      return text.length();
    }
    public boolean end(int n) {
      if (n < 0 || n > text.length()) return false;
      text = text.substring(0, n); return true;
    }

    /** Each answers below -1 or -1 when refused; with weaks the true answer is told apart by "was". */
    private int doMake(State s, int fields, int weight, int end, int root) {
      if (!in(fields, 0, 4) || !in(weight, 1, 9) || !in(end, 0, 7) || !in(root, 0, 5)) return -1;
      int i = 0;
      while (i < 24 && s.things[i] != null) i++;
      if (i == 24) return -2;
      Thing t = new Thing(); t.number = i; t.weight = weight; t.end = end; t.fields = new Thing[fields];
      s.things[i] = t; s.log(0, t); s.layRoot(root, t); s.behind();
      return i;
    }
    private int doSet(State s, int o, int k, int to) {
      if (s.thing(o) == null || !in(k, 0, s.thing(o).fields.length - 1) || to != -1 && s.thing(to) == null) return -1;
      if (s.thing(o).fields[k] == s.thing(to)) return -2;
      TreeSet<Integer> reached = s.reached();
      if (!reached.contains(o) || to != -1 && !reached.contains(to)) return -3;
      int was = s.log.size();
      s.layField(s.thing(o), k, s.thing(to)); s.behind();
      return s.log.size() - was;
    }
    private int doRoot(State s, int r, int to) {
      if (!in(r, 0, 5) || to != -1 && s.thing(to) == null) return -1;
      if (s.roots[r] == s.thing(to)) return -2;
      if (to != -1 && !s.reached().contains(to)) return -3;
      int was = s.log.size();
      s.layRoot(r, s.thing(to)); s.behind();
      return s.log.size() - was;
    }
    private int doWeak(State s, int w, int to) {
      if (!in(w, 0, 3) || to != -1 && s.thing(to) == null) return -4;
      if (s.weak[w] == s.thing(to)) return -2;
      if (to != -1 && !s.reached().contains(to)) return -3;
      s.weak[w] = s.thing(to);
      return 0;
    }
    private int doWake(State s, int w, int r) {
      if (!in(w, 0, 3) || !in(r, 0, 5)) return -1;
      if (s.weak[w] == null) return -3;
      if (s.roots[r] == s.weak[w]) return -2;
      int was = s.log.size();
      s.layRoot(r, s.weak[w]); s.behind();
      return s.log.size() - was;
    }
    private int doTrial(State s) {
      if (s.list.isEmpty()) return -2;
      int was = s.logged(1) + s.logged(2);
      s.trial();
      return s.logged(1) + s.logged(2) - was;
    }

    private int changed(State was, int rows) {
      if (rows < 0) return rows;
      remember(was); tell(h.numbers().size(), h.list.size());
      return rows;
    }
    public int makes(int fields, int weight, int end, int root) {
      State was = h.copy();
      int i = doMake(h, fields, weight, end, root);
      if (i >= 0) { remember(was); tell(h.log.size() - was.log.size()); }
      return i;
    }
    public int sets(int o, int k, int to) { State was = h.copy(); return changed(was, doSet(h, o, k, to)); }
    public int roots(int r, int to) { State was = h.copy(); return changed(was, doRoot(h, r, to)); }
    public int weaks(int w, int to) {
      State was = h.copy();
      int done = doWeak(h, w, to);
      if (done < 0) return done;
      remember(was);
      return was.weak[w] == null ? -1 : was.weak[w].number;
    }
    public int wakes(int w, int r) { State was = h.copy(); return changed(was, doWake(h, w, r)); }
    public int trial() {
      State was = h.copy();
      int freed = doTrial(h);
      if (freed < 0) return freed;
      remember(was); tell(h.logged(3) - was.logged(3), h.visits);
      return freed;
    }
    public int limit(int v) {
      if (!in(v, 1, 24)) return -1;
      if (v == h.limit) return -2;
      State was = h.copy(); remember(was); h.limit = v;
      return was.limit;
    }

    public int object(int i, int what) {
      Thing t = h.thing(i);
      if (t == null || !in(what, 0, 6)) throw new NoSuchElementException();
      int suspect = !h.list.contains(i) ? 0 : h.meant.contains(i) ? 1 : 2;
      return new int[] {h.count(t), t.fields.length, t.weight, t.end, t.ran ? 1 : 0, suspect, h.reached().contains(i) ? 1 : 0}[what];
    }
    private static int number(Thing t) { return t == null ? -1 : t.number; }
    public int field(int i, int k) {
      Thing t = h.thing(i);
      if (t == null || !in(k, 0, t.fields.length - 1)) throw new NoSuchElementException();
      return number(t.fields[k]);
    }
    public int root(int what) {
      if (!in(what, 0, 9)) throw new NoSuchElementException();
      return number(what < 6 ? h.roots[what] : h.weak[what - 6]);
    }
    public int all(int what) {
      if (!in(what, 0, 3)) return -1;
      TreeSet<Integer> of = new TreeSet<>(h.numbers());
      if (what == 1) of = h.reached();
      if (what == 2) of.removeAll(h.reached());
      if (what == 3) of = new TreeSet<>(h.list);
      tell(h.weight(of));
      return bits(of);
    }
    public int list() { tell(); for (int i : h.list) row.add((long) i); return h.list.size(); }
    public int holders(int i) {
      Thing t = h.thing(i);
      if (t == null) return -1;
      int by = 0, roots = 0, weak = 0;
      for (Thing o : h.things) if (o != null && Arrays.asList(o.fields).contains(t)) by |= 1 << o.number;
      for (int r = 0; r < 6; r++) if (h.roots[r] == t) roots |= 1 << r;
      for (int w = 0; w < 4; w++) if (h.weak[w] == t) weak |= 1 << w;
      tell(roots, weak);
      return by;
    }
    public int way(int i) {
      if (h.thing(i) == null) return -1;
      if (!h.reached().contains(i)) return -2;
      // Layers of ways; within a layer, by order; who was come to in a layer ahead is no shortest way.
      List<List<Integer>> layer = new ArrayList<>();
      TreeSet<Integer> first = new TreeSet<>();
      for (Thing r : h.roots) if (r != null) first.add(r.number);
      for (int f : first) layer.add(new ArrayList<>(Collections.singletonList(f)));
      TreeSet<Integer> seen = new TreeSet<>();
      while (true) {
        LinkedHashSet<Integer> ends = new LinkedHashSet<>();
        List<List<Integer>> next = new ArrayList<>();
        for (List<Integer> way : layer) {
          int last = way.get(way.size() - 1);
          if (last == i) { tell(); for (int w : way) row.add((long) w); return way.size(); }
          if (seen.contains(last) || !ends.add(last)) continue;
          TreeSet<Integer> on = new TreeSet<>();
          for (Thing f : h.things[last].fields) if (f != null) on.add(f.number);
          for (int o : on) { List<Integer> longer = new ArrayList<>(way); longer.add(o); next.add(longer); }
        }
        seen.addAll(ends);
        layer = next;
      }
    }
    private boolean comes(int a, int b) {
      TreeSet<Integer> seen = new TreeSet<>();
      for (Thing f : h.things[a].fields) h.walk(f, -1, seen);
      return seen.contains(b);
    }
    public int from(int i) {
      if (h.thing(i) == null) return -1;
      TreeSet<Integer> seen = new TreeSet<>();
      h.walk(h.thing(i), -1, seen);
      tell(comes(i, i) ? 1 : 0);
      return bits(seen);
    }
    public int rings() {
      tell();
      for (int i : h.numbers()) {
        if (!comes(i, i)) continue;
        TreeSet<Integer> ring = new TreeSet<>();
        for (int j : h.numbers()) if (comes(i, j) && comes(j, i)) ring.add(j);
        if (ring.first() == i) row.add((long) bits(ring));
      }
      return row.size();
    }
    public int alone(int i) {
      if (h.thing(i) == null) return -1;
      if (!h.reached().contains(i)) return -2;
      tell(h.weight(h.alone(i)));
      return bits(h.alone(i));
    }
    public int keepers(int i) {
      if (h.thing(i) == null) return -1;
      if (!h.reached().contains(i)) return -2;
      for (int many = 1; ; many++) {
        for (int set = 0; set < 64; set++) {
          if (Integer.bitCount(set) != many || h.reached(set, -1).contains(i)) continue;
          TreeSet<Integer> dead = h.reached();
          dead.removeAll(h.reached(set, -1));
          tell(dead.size());
          return set;
        }
      }
    }
    private int gone(State s) { return bits(h.numbers()) & ~bits(s.numbers()); }
    public int cut(int o, int k) {
      Thing t = h.thing(o);
      if (t == null || !in(k, 0, t.fields.length - 1)) return -1;
      if (t.fields[k] == null) return -2;
      State s = h.copy();
      s.layField(s.thing(o), k, null);
      tell(s.list.size());
      return gone(s);
    }
    public int would() {
      State s = h.copy();
      if (doTrial(s) == -2) return -2;
      tell(s.logged(3) - h.logged(3), s.visits, s.list.size());
      return gone(s);
    }
    public int settles() {
      State s = h.copy();
      int n = 0;
      while (n < 30 && !s.list.isEmpty()) { s.trial(); n++; }
      if (!s.list.isEmpty()) return -2;
      tell(s.numbers().size(), s.numbers().size() - s.reached().size());
      return n;
    }
    public int ranks(int what) {
      if (!in(what, 0, 2)) return -1;
      List<Integer> order = h.numbers();
      order.sort((a, b) -> key(b, what) != key(a, what) ? key(b, what) - key(a, what) : a - b);
      tell(); for (int i : order) row.add((long) i);
      return order.size();
    }
    private int key(int i, int what) {
      return what == 0 ? h.count(h.things[i]) : what == 1 ? h.things[i].weight : h.reached().contains(i) ? h.weight(h.alone(i)) : 0;
    }
    public int log(int i, int what) {
      if (i < 0 || i >= h.log.size() || i < h.log.size() - 60 || !in(what, 0, 1)) throw new NoSuchElementException();
      return h.log.get(i)[what];
    }
    public int logged(int kind) {
      if (!in(kind, 0, 5)) return -1;
      tell(h.log.size());
      return h.logged(kind);
    }

    public int day() {
      String t = text; text = "";
      String kinds = "nsrwkt"; int[] digits = {4, 5, 3, 3, 2, 0};
      List<String> acts = new ArrayList<>();
      for (int p = 0; p < t.length(); ) {
        int kind = kinds.indexOf(t.charAt(p));
        if (kind < 0) return -1 - p;
        for (int q = p + 1; q <= p + digits[kind]; q++) if (q >= t.length() || t.charAt(q) < '0' || t.charAt(q) > '9') return -1 - q;
        acts.add(t.substring(p, p + 1 + digits[kind]));
        p += 1 + digits[kind];
      }
      State was = h.copy();
      int done = 0;
      while (done < acts.size() && doTold(acts.get(done)) >= 0) done++;
      if (done > 0) remember(was);
      tell(done < acts.size() ? 1 : 0, h.numbers().size());
      return done;
    }
    private int doTold(String a) {
      switch (a.charAt(0)) {
        case 'n': return doMake(h, n(a, 1, 2), n(a, 2, 3), n(a, 3, 4), n(a, 4, 5));
        case 's': return doSet(h, n(a, 1, 3), n(a, 3, 4), to(a, 4));
        case 'r': return doRoot(h, n(a, 1, 2), to(a, 2));
        case 'w': return doWeak(h, n(a, 1, 2), to(a, 2));
        case 'k': return doWake(h, n(a, 1, 2), n(a, 2, 3));
        default: return doTrial(h);
      }
    }
    private static int n(String a, int p, int q) { return Integer.parseInt(a.substring(p, q)); }
    private static int to(String a, int p) { return n(a, p, p + 2) == 99 ? -1 : n(a, p, p + 2); }

    public int undo() {
      if (past.isEmpty()) return -1;
      h = past.remove(past.size() - 1);
      return past.size();
    }
    private int draw(int n) {
      drawn = drawn * 1103515245 + 12345;
      return (int) ((drawn & 0xffffffffL) / 65536 % n);
    }
    private int drawTo() { int to = draw(25); return to == 24 ? -1 : to; }
    public int years(int seed, int n) {
      if (!in(n, 1, 40)) return -1;
      State s = h.copy();
      drawn = seed;
      for (int y = 0; y < n; y++) {
        int what = draw(4);
        if (what == 0) { int f = draw(5), e = draw(8), r = draw(6); doMake(s, f, 1, e, r); }
        else if (what < 3) { int o = draw(24), k = draw(4), to = drawTo(); doSet(s, o, k, to); }
        else { int r = draw(6), to = drawTo(); doRoot(s, r, to); }
      }
      tell(s.log.size() - h.log.size(), s.list.size());
      return bits(s.numbers());
    }
    public boolean keep(int i) { if (!in(i, 0, 1)) return false; kept[i] = h.copy(); return true; }
    public boolean again(int i) {
      if (!in(i, 0, 1) || kept[i] == null) return false;
      h = kept[i].copy(); past.clear();
      return true;
    }
    public int count(int what) {
      int sum = 0;
      for (Thing t : h.things) if (t != null) sum += h.count(t);
      int[] all = {h.numbers().size(), h.list.size(), h.limit, sum, h.log.size(), past.size(), row.size(), text.length()};
      return in(what, 0, 7) ? all[what] : -1;
    }
    public long row(int i) {
      if (!in(i, 0, row.size() - 1)) throw new NoSuchElementException();
      return row.get(i);
    }
  }
}
