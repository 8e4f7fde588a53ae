import java.util.NoSuchElementException;

/** Each promise by hand: ordinary inputs, the edges that the document names, wrong inputs. */
public final class PromiseTest {
  private static final int NONE = CountedHeap.NONE;
  private static int wrong = 0;
  private static int checks = 0;
  private static int promise = 0;

  private interface Call { long on() ; }

  private static void due(String call, long got, long want) {
    checks++;
    if (got != want) { wrong++; System.out.println("promise " + promise + ": " + call + " answered " + got + ", due is " + want); }
  }
  private static void due(String call, boolean got, boolean want) { due(call, got ? 1 : 0, want ? 1 : 0); }
  private static void row(CountedHeap h, long... want) {
    due("numbers of the ROW", h.count(6), want.length);
    for (int i = 0; i < want.length && i < h.count(6); i++) due("row(" + i + ")", h.row(i), want[i]);
  }
  private static void none(String call, Call c) {
    checks++;
    try { long got = c.on(); wrong++; System.out.println("promise " + promise + ": " + call + " answered " + got + ", due is NoSuchElementException"); }
    catch (NoSuchElementException e) { /* as due */ }
  }
  private static void logIs(CountedHeap h, int from, int... kindsAndObjects) {
    due("rows of THE LOG", h.count(4), from + kindsAndObjects.length / 2);
    for (int n = 0; n < kindsAndObjects.length / 2 && from + n < h.count(4); n++) {
      due("log(" + (from + n) + ", 0)", h.log(from + n, 0), kindsAndObjects[2 * n]);
      due("log(" + (from + n) + ", 1)", h.log(from + n, 1), kindsAndObjects[2 * n + 1]);
    }
  }
  private static int day(CountedHeap h, String text) { return Heaps.day(h, text); }
  private static CountedHeap chain(int n, int fields) { return Heaps.chain(n, fields); }
  private static CountedHeap deadRing(int end0, int end1) { return Heaps.deadRing(end0, end1); }

  public static void main(String[] args) {
    promise = 1; newObject();
    promise = 2; sign();
    promise = 3; end();
    promise = 4; makes();
    promise = 5; sets();
    promise = 6; roots();
    promise = 7; weaks();
    promise = 8; wakes();
    promise = 9; trial(); trialOrder(); trialEnds();
    promise = 10; limit();
    promise = 11; object();
    promise = 12; field();
    promise = 13; root();
    promise = 14; all();
    promise = 15; list();
    promise = 16; holders();
    promise = 17; way();
    promise = 18; from();
    promise = 19; rings();
    promise = 20; alone();
    promise = 21; keepers();
    promise = 22; cut();
    promise = 23; would();
    promise = 24; settles();
    promise = 25; ranks();
    promise = 26; log();
    promise = 27; logged();
    promise = 28; day();
    promise = 29; undo();
    promise = 30; years();
    promise = 31; keep();
    promise = 32; again();
    promise = 33; count();
    promise = 34; row();
    System.out.println("PromiseTest: " + checks + " checks, " + wrong + " wrong");
    if (wrong != 0) System.exit(1);
  }

  private static void newObject() {
    CountedHeap h = new CountedHeap();
    due("NONE", CountedHeap.NONE, -1);
    due("all(0)", h.all(0), 0);
    int[] want = {0, 0, 24, 0, 0, 0, 1, 0};
    for (int what = 0; what < 8; what++) due("count(" + what + ")", h.count(what), want[what]);
    for (int what = 0; what < 10; what++) due("root(" + what + ")", h.root(what), NONE);
  }

  private static void sign() {
    CountedHeap h = new CountedHeap();
    for (int n = 1; n <= 20; n++) due("sign", h.sign(-1), 4 * n);
    due("sign behind 80", h.sign(0), NONE);
    due("count(7)", h.count(7), 80);
    h.end(77);
    due("sign behind 77", h.sign(0), NONE);
    h.end(76);
    due("sign behind 76", h.sign(0), 80);
    CountedHeap g = new CountedHeap();
    g.makes(1, 1, 0, 0);
    // The highest byte is first: "r099" empties ROOT 0.
    due("sign", g.sign('r' << 24 | '0' << 16 | '9' << 8 | '9'), 4);
    due("day", g.day(), 1);
    due("count(0)", g.count(0), 0);
    // A byte above 127 has no sign of its own.
    g.sign(0xff747474); due("day", g.day(), -1);
    g.sign(0x74ff7474); due("day", g.day(), -2);
  }

  private static void end() {
    CountedHeap h = new CountedHeap();
    due("end(0)", h.end(0), true);
    due("end(1)", h.end(1), false);
    due("end(-1)", h.end(-1), false);
    h.sign(0x74747474);
    due("end(5)", h.end(5), false);
    due("count(7)", h.count(7), 4);
    due("end(4)", h.end(4), true);
    due("end(3)", h.end(3), true);
    due("end(MIN)", h.end(Integer.MIN_VALUE), false);
    due("count(7)", h.count(7), 3);
    due("end(4)", h.end(4), false);
  }

  private static void makes() {
    CountedHeap h = new CountedHeap();
    due("makes(-1, ..)", h.makes(-1, 1, 0, 0), NONE);
    due("makes(5, ..)", h.makes(5, 1, 0, 0), NONE);
    due("weight 0", h.makes(0, 0, 0, 0), NONE);
    due("weight 10", h.makes(0, 10, 0, 0), NONE);
    due("end -1", h.makes(0, 1, -1, 0), NONE);
    due("end 8", h.makes(0, 1, 8, 0), NONE);
    due("root -1", h.makes(0, 1, 0, -1), NONE);
    due("root 6", h.makes(0, 1, 0, 6), NONE);
    due("count(5)", h.count(5), 0);
    due("makes", h.makes(4, 9, 7, 5), 0);
    row(h, 1);
    for (int k = 0; k < 4; k++) due("field", h.field(0, k), NONE);
    due("root(5)", h.root(5), 0);
    // The one that was in the ROOT goes, behind the new one.
    CountedHeap g = new CountedHeap();
    g.makes(0, 1, 0, 0);
    due("makes over 0", g.makes(0, 1, 0, 0), 1);
    row(g, 2);
    logIs(g, 0, 0, 0, 0, 1, 1, 0);
    due("the least number", g.makes(0, 1, 0, 1), 0);
    // The one that was there comes back to its ROOT: the new one goes, its number is the answer.
    CountedHeap b = new CountedHeap();
    b.makes(0, 1, 2, 0);
    due("makes", b.makes(0, 1, 0, 0), 1);
    row(b, 4);
    logIs(b, 1, 0, 1, 3, 0, 4, 0, 1, 1);
    due("all(0)", b.all(0), 1);
    full();
    // Behind it there is a TRIAL.
    CountedHeap t = deadRing(0, 0);
    t.limit(2);
    due("makes", t.makes(0, 1, 0, 0), 2);
    row(t, 3);
    due("all(0)", t.all(0), 4);
  }

  private static void full() {
    CountedHeap h = Heaps.full();
    h.holders(0);
    due("makes as there are 24", h.makes(0, 1, 0, 0), -2);
    row(h, 1, 0);
    due("NONE ahead of -2", h.makes(5, 1, 0, 0), NONE);
    due("count(0)", h.count(0), 24);
  }

  private static void sets() {
    CountedHeap h = chain(3, 2);
    due("no such object", h.sets(3, 0, NONE), NONE);
    due("no such object", h.sets(-1, 0, NONE), NONE);
    due("no such object", h.sets(24, 0, NONE), NONE);
    due("no such field", h.sets(0, 2, NONE), NONE);
    due("no such field", h.sets(0, -1, NONE), NONE);
    due("no other one", h.sets(0, 0, 3), NONE);
    due("no other one", h.sets(0, 0, -2), NONE);
    due("it is so", h.sets(0, 0, 1), -2);
    due("it is so", h.sets(0, 1, NONE), -2);
    due("sets", h.sets(2, 0, 0), 0);
    row(h, 3, 2);
    due("the rest hangs on it", h.sets(0, 0, NONE), 2);
    row(h, 1, 1);
    logIs(h, 3, 1, 1, 1, 2);
    due("itself", h.sets(0, 1, 0), 0);
    due("object(0, 0)", h.object(0, 0), 2);
    // Dead ones: it is so comes ahead of -3.
    CountedHeap d = deadRing(0, 0);
    d.makes(2, 1, 0, 0);
    due("-3", d.sets(0, 0, NONE), -3);
    due("-3", d.sets(2, 0, 0), -3);
    due("-3", d.sets(0, 0, 2), -3);
    due("-2", d.sets(0, 0, 1), -2);
    due("NONE ahead of -3", d.sets(0, 1, 2), NONE);
    row(d, 1);
    // COUNTED UP ahead of COUNTED DOWN: what hangs on the old one alone may be the new one.
    CountedHeap s = chain(3, 2);
    due("sets", s.sets(0, 0, 2), 1);
    due("all(0)", s.all(0), 5);
    due("object(2, 0)", s.object(2, 0), 1);
    fieldsByNumbers();
  }

  /** FREED: its row, then its FIELDS by numbers with all that comes of each, then its WEAK ones. */
  private static void fieldsByNumbers() {
    CountedHeap h = new CountedHeap();
    h.makes(1, 1, 0, 0);
    h.makes(3, 1, 0, 1); h.sets(0, 0, 1);
    h.makes(1, 1, 0, 1); h.sets(1, 2, 2);
    h.makes(0, 1, 0, 1); h.sets(2, 0, 3);
    h.makes(0, 1, 1, 1); h.sets(1, 0, 4);
    h.roots(1, NONE);
    h.weaks(3, 1); h.weaks(1, 1); h.weaks(0, 3);
    int from = h.count(4);
    due("sets", h.sets(0, 0, NONE), 8);
    row(h, 1, 0);
    logIs(h, from, 1, 1, 3, 4, 1, 4, 1, 2, 1, 3, 5, 3, 5, 1, 5, 1);
  }

  private static void roots() {
    CountedHeap h = chain(2, 1);
    due("no such ROOT", h.roots(6, 0), NONE);
    due("no such ROOT", h.roots(-1, 0), NONE);
    due("no such OBJECT", h.roots(0, 2), NONE);
    due("no such OBJECT", h.roots(0, -2), NONE);
    due("it is so", h.roots(0, 0), -2);
    due("it is so", h.roots(5, NONE), -2);
    due("roots", h.roots(5, 1), 0);
    row(h, 2, 1);
    due("object(1, 5)", h.object(1, 5), 2);
    due("roots", h.roots(0, NONE), 1);
    row(h, 1, 1);
    due("object(1, 5)", h.object(1, 5), 1);
    CountedHeap d = deadRing(0, 0);
    due("not REACHED", d.roots(3, 0), -3);
    due("root(3)", d.root(3), NONE);
    // ENDS by which each other goes from the same ROOT.
    CountedHeap b = new CountedHeap();
    b.makes(0, 1, 2, 0); b.makes(0, 1, 2, 1);
    due("roots", b.roots(1, NONE), 5);
    logIs(b, 2, 3, 1, 4, 1, 3, 0, 4, 0, 1, 1);
    row(b, 1, 0);
  }

  private static void weaks() {
    CountedHeap h = chain(2, 1);
    h.list();
    due("weaks", h.weaks(0, 1), NONE);
    row(h, 1);
    due("it is so", h.weaks(0, 1), -2);
    due("weaks", h.weaks(0, 0), 1);
    due("weaks", h.weaks(0, NONE), 0);
    due("it is so", h.weaks(0, NONE), -2);
    due("no such WEAK one", h.weaks(4, 0), -4);
    due("no such WEAK one", h.weaks(-1, 0), -4);
    due("no such OBJECT", h.weaks(0, 2), -4);
    due("no such OBJECT", h.weaks(0, -2), -4);
    due("object(1, 0)", h.object(1, 0), 1);
    CountedHeap d = deadRing(0, 0);
    due("not REACHED", d.weaks(0, 0), -3);
    // No TRIAL comes by it.
    d.limit(1);
    d.count(0);
    CountedHeap g = new CountedHeap();
    g.makes(1, 1, 0, 0); g.makes(1, 2, 0, 1);
    g.sets(0, 0, 1); g.roots(1, NONE); g.sets(0, 0, NONE);
    g.makes(1, 1, 0, 1); g.sets(0, 0, 1); g.sets(1, 0, 1); g.weaks(2, 1);
    g.sets(0, 0, NONE); g.roots(1, NONE);
    g.limit(1);
    due("dead, and it is so", g.weaks(2, 1), -2);
    due("weaks", g.weaks(1, 0), NONE);
    due("count(1)", g.count(1), 1);
    due("trial", g.trial(), 1);
    due("cleared", g.root(8), NONE);
    due("root(7)", g.root(7), 0);
  }

  private static void wakes() {
    CountedHeap h = new CountedHeap();
    due("it has none", h.wakes(0, 0), -3);
    due("no such WEAK one", h.wakes(4, 0), NONE);
    due("no such WEAK one", h.wakes(-1, 0), NONE);
    due("no such ROOT", h.wakes(0, 6), NONE);
    due("no such ROOT", h.wakes(0, -1), NONE);
    h.makes(1, 1, 0, 0); h.makes(0, 1, 0, 1);
    h.weaks(3, 0); h.sets(0, 0, 0); h.roots(0, NONE);
    due("dead", h.object(0, 6), 0);
    due("wakes", h.wakes(3, 1), 1);
    row(h, 1, 1);
    due("object(0, 5)", h.object(0, 5), 2);
    due("object(0, 6)", h.object(0, 6), 1);
    due("it is there", h.wakes(3, 1), -2);
    due("root(9)", h.root(9), 0);
    // A TRIAL behind it: it is not MEANT any more.
    h.limit(1);
    due("wakes", h.wakes(3, 2), 0);
    row(h, 1, 0);
  }

  private static void trial() {
    CountedHeap h = new CountedHeap();
    due("empty", h.trial(), -2);
    CountedHeap d = deadRing(0, 0);
    due("trial", d.trial(), 2);
    row(d, 0, 4);
    logIs(d, 2, 2, 0, 2, 1);
    due("empty", d.trial(), -2);
    row(d, 0, 4);
    // REACHED: given back.
    CountedHeap r = new CountedHeap();
    r.makes(1, 1, 0, 0); r.roots(1, 0); r.sets(0, 0, 0);
    r.roots(1, NONE);
    due("trial", r.trial(), 0);
    row(r, 0, 2);
    due("object(0, 0)", r.object(0, 0), 2);
    due("count(1)", r.count(1), 0);
    // No FIELDS: no SUSPECT.
    CountedHeap n = new CountedHeap();
    n.makes(0, 1, 0, 0); n.roots(1, 0); n.roots(0, NONE);
    due("count(1)", n.count(1), 0);
    // What hangs on a dead ring is freed with it; who else has it keeps its COUNT right.
    CountedHeap k = new CountedHeap();
    k.makes(2, 1, 0, 0); k.makes(0, 1, 0, 1);
    k.sets(0, 0, 0); k.sets(0, 1, 1); k.weaks(2, 0); k.weaks(0, 0);
    k.roots(0, NONE);
    due("trial", k.trial(), 1);
    row(k, 0, 4);
    logIs(k, 2, 2, 0, 5, 0, 5, 0);
    due("object(1, 0)", k.object(1, 0), 1);
    due("object(1, 5)", k.object(1, 5), 0);
  }

  /** One that is met ahead of who keeps it is WHITE first, BLACK later: more VISITS. */
  private static void trialOrder() {
    CountedHeap h = new CountedHeap();
    // 0 and 1 a ring, 1 is kept by a ROOT; both are SUSPECTS, 0 first.
    h.makes(1, 1, 0, 0); h.makes(1, 1, 0, 1);
    h.sets(0, 0, 1); h.sets(1, 0, 0);
    h.roots(0, NONE); h.roots(2, 1); h.roots(2, NONE);
    due("list", h.list(), 2);
    due("trial", h.trial(), 0);
    row(h, 0, 5);
    // The other way round: 1 is given back first, and 0 with it.
    CountedHeap g = new CountedHeap();
    g.makes(1, 1, 0, 0); g.makes(1, 1, 0, 1);
    g.sets(0, 0, 1); g.sets(1, 0, 0);
    g.roots(2, 1); g.roots(2, NONE); g.roots(0, NONE);
    due("trial", g.trial(), 0);
    row(g, 0, 4);
    // Behind the walk from 2, that from 0 begins at 0, which is kept: 1, no SUSPECT that is MEANT, is never WHITE.
    CountedHeap f = new CountedHeap();
    f.makes(2, 1, 0, 0); f.makes(1, 1, 0, 1); f.makes(1, 1, 0, 2);
    f.sets(0, 0, 1); f.sets(1, 0, 0); f.sets(2, 0, 2);
    f.roots(1, NONE); f.sets(0, 1, 1); f.roots(2, NONE); f.roots(3, 0); f.roots(3, NONE);
    due("list", f.list(), 3); row(f, 1, 2, 0);
    due("trial", f.trial(), 1); row(f, 0, 6);
  }

  private static void trialEnds() {
    // 0 comes back to ROOT 1, 1 is told only: both are SUSPECTS behind that, by numbers.
    CountedHeap h = deadRing(3, 1);
    due("trial", h.trial(), 0);
    row(h, 2, 4);
    logIs(h, 2, 3, 0, 4, 0, 3, 1);
    due("list", h.list(), 2);
    row(h, 0, 1);
    due("object(0, 5)", h.object(0, 5), 1);
    due("root(1)", h.root(1), 0);
    due("trial", h.trial(), 0);
    h.roots(1, NONE);
    due("an END runs once", h.trial(), 2);
    // Who was in the ROOT to which one comes back goes, and is counted.
    CountedHeap g = deadRing(2, 2);
    g.makes(0, 1, 1, 0);
    due("trial", g.trial(), 1);
    row(g, 3, 4);
    logIs(g, 3, 3, 0, 4, 0, 3, 2, 1, 2, 3, 1, 4, 1);
    due("root(0)", g.root(0), 1);
    due("list", g.list(), 2);
    row(g, 0, 1);
    due("settles", g.settles(), 1);
  }

  private static void limit() {
    CountedHeap h = deadRing(0, 0);
    due("limit(0)", h.limit(0), NONE);
    due("limit(25)", h.limit(25), NONE);
    due("limit(-1)", h.limit(-1), NONE);
    due("limit(24)", h.limit(24), -2);
    due("limit(1)", h.limit(1), 24);
    due("no TRIAL by that", h.count(1), 2);
    due("limit(3)", h.limit(3), 1);
    h.makes(0, 1, 0, 0);
    due("below LIMIT", h.count(1), 2);
    due("limit(2)", h.limit(2), 3);
    h.makes(0, 1, 0, 1);
    due("at LIMIT", h.count(1), 0);
    due("count(0)", h.count(0), 2);
    // LIMIT 24 is met by all 24 OBJECTS.
    CountedHeap a = chain(24, 1);
    due("count(1)", a.count(1), 23);
    a.roots(2, 0);
    due("count(1)", a.count(1), 23);
    a.roots(2, NONE); row(a, 24, 0);
    CountedHeap u = chain(24, 1);
    u.roots(2, 0); u.limit(23); u.undo(); u.roots(3, 23); u.roots(3, NONE);
    due("count(1)", u.count(1), 23);
    // One TRIAL alone: ENDS leave as many SUSPECTS as LIMIT.
    CountedHeap g = deadRing(1, 1);
    g.limit(1);
    g.makes(0, 1, 0, 0);
    due("count(1)", g.count(1), 2);
    due("count(2)", g.count(2), 1);
  }

  private static void object() {
    CountedHeap h = deadRing(0, 1);
    h.makes(3, 7, 4, 5);
    int[][] want = {{1, 1, 2, 0, 0, 1, 0}, {1, 1, 3, 1, 0, 1, 0}, {1, 3, 7, 4, 0, 0, 1}};
    for (int i = 0; i < 3; i++) for (int what = 0; what < 7; what++) due("object(" + i + ", " + what + ")", h.object(i, what), want[i][what]);
    h.trial();
    due("it ran", h.object(1, 4), 1);
    due("none to run", h.object(0, 4), 0);
    none("object(3, 0)", () -> h.object(3, 0));
    none("object(-1, 0)", () -> h.object(-1, 0));
    none("object(24, 0)", () -> h.object(24, 0));
    none("object(32, 0)", () -> h.object(32, 0));
    none("object(0, 7)", () -> h.object(0, 7));
    none("object(0, -1)", () -> h.object(0, -1));
    // A number that comes again has nothing of the one ahead.
    h.roots(5, NONE);
    due("came back", h.object(2, 4), 1);
    h.roots(2, NONE);
    due("makes", h.makes(1, 1, 4, 5), 2);
    due("object(2, 4)", h.object(2, 4), 0);
  }

  private static void field() {
    CountedHeap h = chain(2, 2);
    due("field(0, 0)", h.field(0, 0), 1);
    due("field(0, 1)", h.field(0, 1), NONE);
    none("field(0, 2)", () -> h.field(0, 2));
    none("field(0, -1)", () -> h.field(0, -1));
    none("field(2, 0)", () -> h.field(2, 0));
    none("field(-1, 0)", () -> h.field(-1, 0));
    none("field(MAX, 0)", () -> h.field(Integer.MAX_VALUE, 0));
    h.roots(0, NONE);
    none("field(0, 0)", () -> h.field(0, 0));
  }

  private static void root() {
    CountedHeap h = chain(2, 1);
    h.roots(5, 1); h.weaks(0, 0); h.weaks(3, 1);
    int[] want = {0, NONE, NONE, NONE, NONE, 1, 0, NONE, NONE, 1};
    for (int what = 0; what < 10; what++) due("root(" + what + ")", h.root(what), want[what]);
    none("root(10)", () -> h.root(10));
    none("root(-1)", () -> h.root(-1));
  }

  private static void all() {
    CountedHeap h = deadRing(0, 0);
    h.makes(1, 9, 0, 0); h.roots(1, 2); h.roots(1, NONE);
    due("all(0)", h.all(0), 7); row(h, 14);
    due("all(1)", h.all(1), 4); row(h, 9);
    due("all(2)", h.all(2), 3); row(h, 5);
    due("all(3)", h.all(3), 7); row(h, 14);
    h.roots(1, 2);
    due("not MEANT, yet a SUSPECT", h.all(3), 7);
    due("all(4)", h.all(4), NONE); row(h, 14);
    due("all(-1)", h.all(-1), NONE);
  }

  private static void list() {
    CountedHeap h = new CountedHeap();
    h.makes(1, 1, 0, 0); h.makes(1, 1, 0, 1); h.makes(1, 1, 0, 2);
    h.roots(3, 2); h.roots(4, 0); h.roots(5, 1);
    h.roots(3, NONE); h.roots(5, NONE); h.roots(4, NONE);
    due("list", h.list(), 3); row(h, 2, 1, 0);
    // Again a SUSPECT that is MEANT: at its old place.
    h.roots(3, 2); h.roots(3, NONE);
    due("list", h.list(), 3); row(h, 2, 1, 0);
    h.roots(1, NONE);
    due("list", h.list(), 2); row(h, 2, 0);
    due("empty", new CountedHeap().list(), 0);
  }

  private static void holders() {
    CountedHeap h = deadRing(0, 0);
    h.makes(2, 1, 0, 3); h.sets(2, 0, 2); h.sets(2, 1, 2); h.roots(5, 2); h.weaks(1, 2); h.weaks(3, 2);
    due("holders(2)", h.holders(2), 4); row(h, 8 + 32, 2 + 8);
    due("holders(0)", h.holders(0), 2); row(h, 0, 0);
    due("holders(3)", h.holders(3), NONE);
    due("holders(-1)", h.holders(-1), NONE);
    row(h, 0, 0);
  }

  private static void way() {
    CountedHeap h = new CountedHeap();
    // 5 is to be come to by 3, 1 and by 2, 4: as many, 2 is the lesser; 0 has a longer way.
    h.makes(1, 1, 0, 0);
    h.makes(1, 1, 0, 1);
    h.makes(1, 1, 0, 2);
    h.makes(1, 1, 0, 3);
    h.makes(1, 1, 0, 4);
    h.makes(1, 1, 0, 5);
    h.sets(0, 0, 3); h.sets(3, 0, 1); h.sets(1, 0, 5); h.sets(2, 0, 4); h.sets(4, 0, 5);
    h.roots(1, NONE); h.roots(4, NONE); h.roots(5, NONE);
    due("way(5)", h.way(5), 3); row(h, 2, 4, 5);
    due("way(3)", h.way(3), 1); row(h, 3);
    h.roots(3, NONE);
    due("way(3)", h.way(3), 2); row(h, 0, 3);
    due("way(5)", h.way(5), 3); row(h, 2, 4, 5);
    h.roots(2, NONE);
    due("way(5)", h.way(5), 4); row(h, 0, 3, 1, 5);
    due("way(6)", h.way(6), NONE);
    due("way(-1)", h.way(-1), NONE);
    CountedHeap d = deadRing(0, 0);
    d.list();
    due("dead", d.way(0), -2); row(d, 0, 1);
    // Of two FIELDS the lesser OBJECT, not the lesser FIELD.
    CountedHeap f = new CountedHeap();
    f.makes(2, 1, 0, 0); f.makes(1, 1, 0, 1); f.makes(1, 1, 0, 2); f.makes(0, 1, 0, 3);
    f.sets(0, 0, 2); f.sets(0, 1, 1); f.sets(1, 0, 3); f.sets(2, 0, 3);
    f.roots(1, NONE); f.roots(2, NONE); f.roots(3, NONE);
    due("way(3)", f.way(3), 3); row(f, 0, 1, 3);
    CountedHeap c = chain(24, 1);
    due("way(23)", c.way(23), 24);
    due("row(23)", c.row(23), 23);
  }

  private static void from() {
    CountedHeap h = chain(3, 1);
    due("from(1)", h.from(1), 6); row(h, 0);
    h.sets(2, 0, 1);
    due("from(1)", h.from(1), 6); row(h, 1);
    due("from(0)", h.from(0), 7); row(h, 0);
    due("from(3)", h.from(3), NONE);
    due("from(-1)", h.from(-1), NONE); row(h, 0);
    CountedHeap d = deadRing(0, 0);
    due("dead", d.from(1), 3); row(d, 1);
  }

  private static void rings() {
    CountedHeap h = chain(6, 2);
    due("none", h.rings(), 0); row(h);
    h.sets(5, 0, 3); h.sets(2, 1, 0); h.sets(5, 1, 5);
    due("two", h.rings(), 2); row(h, 7, 56);
    h.sets(5, 0, NONE);
    due("itself", h.rings(), 2); row(h, 7, 32);
    due("dead", deadRing(0, 0).rings(), 1);
  }

  private static void alone() {
    CountedHeap h = chain(4, 2);
    due("alone(1)", h.alone(1), 14); row(h, 9);
    h.sets(0, 1, 2);
    due("alone(1)", h.alone(1), 2); row(h, 2);
    due("alone(0)", h.alone(0), 15); row(h, 10);
    h.roots(4, 3);
    due("alone(0)", h.alone(0), 7); row(h, 6);
    due("alone(4)", h.alone(4), NONE);
    due("alone(-1)", h.alone(-1), NONE);
    due("dead", deadRing(0, 0).alone(0), -2);
  }

  private static void keepers() {
    CountedHeap h = chain(3, 1);
    h.roots(2, 1); h.roots(5, 2);
    due("keepers(0)", h.keepers(0), 1); row(h, 1);
    due("keepers(1)", h.keepers(1), 5); row(h, 2);
    due("keepers(2)", h.keepers(2), 37); row(h, 3);
    due("keepers(3)", h.keepers(3), NONE); row(h, 3);
    due("keepers(24)", h.keepers(24), NONE);
    due("dead", deadRing(0, 0).keepers(1), -2);
  }

  private static void cut() {
    CountedHeap h = chain(4, 2);
    due("cut(0, 0)", h.cut(0, 0), 14); row(h, 0);
    due("cut(3, 0)", h.cut(3, 0), -2); row(h, 0);
    due("cut(0, 2)", h.cut(0, 2), NONE);
    due("cut(4, 0)", h.cut(4, 0), NONE);
    due("cut(0, -1)", h.cut(0, -1), NONE);
    h.trial();
    h.sets(3, 0, 1);
    due("a ring stays", h.cut(0, 0), 0); row(h, 1);
    h.limit(1);
    due("without a TRIAL", h.cut(0, 0), 0); row(h, 1);
    due("it changes nothing", h.field(0, 0), 1);
    due("count(4)", h.count(4), 4);
    // Who comes back does not go; whom it drives from its ROOT does.
    CountedHeap b = new CountedHeap();
    b.makes(1, 1, 0, 0); b.makes(0, 1, 3, 2); b.sets(0, 0, 1); b.roots(2, NONE); b.makes(0, 1, 0, 1);
    due("cut(0, 0)", b.cut(0, 0), 4);
    due("dead ones", deadRing(0, 0).cut(1, 0), 3);
  }

  private static void would() {
    CountedHeap h = deadRing(0, 0);
    due("would", h.would(), 3); row(h, 0, 4, 0);
    due("it changes nothing", h.count(0), 2);
    due("count(1)", h.count(1), 2);
    due("count(4)", h.count(4), 2);
    CountedHeap e = deadRing(1, 0);
    due("an END", e.would(), 0); row(e, 1, 4, 2);
    due("it has not run", e.object(0, 4), 0);
    due("empty", chain(1, 1).would(), -2);
  }

  private static void settles() {
    CountedHeap h = new CountedHeap();
    due("settles", h.settles(), 0); row(h, 0, 0);
    due("settles", deadRing(0, 0).settles(), 1);
    CountedHeap e = deadRing(1, 1);
    due("settles", e.settles(), 2); row(e, 0, 0);
    due("it changes nothing", e.count(1), 2);
    CountedHeap b = deadRing(2, 0);
    due("settles", b.settles(), 2); row(b, 2, 0);
    // Dead ones that no SUSPECT leads to stay: 0 is not MEANT any more, as it was COUNTED UP by hand.
    CountedHeap d = new CountedHeap();
    d.makes(1, 1, 0, 0); d.makes(1, 1, 0, 1); d.sets(0, 0, 0); d.weaks(0, 0); d.roots(0, NONE);
    due("dead", d.all(2), 1);
    due("settles", d.settles(), 1); row(d, 1, 0);
  }

  private static void ranks() {
    CountedHeap h = chain(4, 2);
    h.sets(0, 1, 3); h.sets(3, 0, 3);
    due("ranks(0)", h.ranks(0), 4); row(h, 3, 0, 1, 2);
    due("ranks(1)", h.ranks(1), 4); row(h, 3, 2, 1, 0);
    due("ranks(2)", h.ranks(2), 4); row(h, 0, 1, 3, 2);
    due("ranks(3)", h.ranks(3), NONE);
    due("ranks(-1)", h.ranks(-1), NONE); row(h, 0, 1, 3, 2);
    CountedHeap d = deadRing(0, 0);
    d.makes(0, 1, 0, 0);
    due("dead ones have 0", d.ranks(2), 3); row(d, 2, 0, 1);
    due("ranks(1)", d.ranks(1), 3); row(d, 1, 0, 2);
  }

  private static void log() {
    CountedHeap h = new CountedHeap();
    none("log(0, 0)", () -> h.log(0, 0));
    for (int n = 0; n < 31; n++) h.makes(0, 1, 0, 0);
    // 61 rows: made, then made and FREED 30 times.
    due("count(4)", h.count(4), 61);
    none("log(0, 0)", () -> h.log(0, 0));
    due("log(1, 0)", h.log(1, 0), 0);
    due("log(1, 1)", h.log(1, 1), 1);
    due("log(60, 0)", h.log(60, 0), 1);
    due("log(60, 1)", h.log(60, 1), 1);
    due("log(58, 1)", h.log(58, 1), 0);
    none("log(61, 0)", () -> h.log(61, 0));
    none("log(-1, 0)", () -> h.log(-1, 0));
    none("log(60, 2)", () -> h.log(60, 2));
    none("log(60, -1)", () -> h.log(60, -1));
    h.undo();
    due("log(0, 0) is of the latest 60 again", h.log(0, 0), 0);
    none("log(59, 0)", () -> h.log(59, 0));
  }

  private static void logged() {
    CountedHeap h = deadRing(3, 1);
    h.weaks(0, NONE);
    h.trial(); h.roots(1, NONE); h.trial();
    h.makes(0, 1, 0, 0); h.weaks(0, 0); h.roots(0, NONE);
    int[] want = {3, 1, 2, 2, 1, 1};
    for (int kind = 0; kind < 6; kind++) { due("logged(" + kind + ")", h.logged(kind), want[kind]); row(h, 10); }
    due("logged(6)", h.logged(6), NONE);
    due("logged(-1)", h.logged(-1), NONE);
    row(h, 10);
  }

  private static void day() {
    CountedHeap h = new CountedHeap();
    due("an empty one", h.day(), 0); row(h, 0, 0);
    due("count(5)", h.count(5), 0);
    due("day", day(h, "n2530n1700s00001s01000r099r099"), 5);
    row(h, 1, 2);
    due("count(7)", h.count(7), 0);
    due("count(5)", h.count(5), 1);
    due("object(0, 2)", h.object(0, 2), 5);
    due("object(0, 3)", h.object(0, 3), 3);
    due("object(1, 2)", h.object(1, 2), 7);
    due("the trial", day(h, "t"), 1); row(h, 0, 2);
    due("root(1)", h.root(1), 0);
    due("day", day(h, "w200w299w301k35"), 4); row(h, 0, 2);
    due("no SUSPECTS", day(h, "t"), 0); row(h, 1, 2);
    due("root(9)", h.root(9), 1);
    due("root(5)", h.root(5), 1);
    due("none is done", day(h, "r024"), 0); row(h, 1, 2);
    due("none is done", day(h, "s99000"), 0);
    due("98 is not none", day(h, "r598"), 0);
    due("-2 can't be done", day(h, "w301"), 0);
    String[] bad = {"x", "n", "n1", "n100", "n1000x", "na", "s0000", "s000a0", "r09", "r09x", "w", "w0/0", "k0", "k:0", "tt ", "T", "t0"};
    int[] where = {0, 1, 2, 4, 5, 1, 5, 4, 3, 3, 1, 2, 2, 1, 2, 0, 1};
    h.list();
    int rows = h.count(4);
    for (int n = 0; n < bad.length; n++) {
      due(bad[n], day(h, bad[n]), -1 - where[n]);
      due("count(7)", h.count(7), 0);
    }
    due("nothing is done", day(h, "n1000n100"), -10);
    due("count(4)", h.count(4), rows);
    due("numbers of the ROW", h.count(6), 0);
    // LIMIT holds in A DAY too.
    CountedHeap g = deadRing(0, 0);
    g.limit(1);
    due("day", day(g, "n0100n0101"), 2); row(g, 0, 2);
    due("all(0)", g.all(0), 5);
    StringBuilder most = new StringBuilder();
    for (int n = 0; n < 16; n++) most.append("n0100");
    CountedHeap m = new CountedHeap();
    due("80 signs", day(m, most.toString()), 16);
  }

  private static void undo() {
    CountedHeap h = new CountedHeap();
    due("undo", h.undo(), NONE);
    for (int n = 0; n < 6; n++) h.makes(1, 1, 0, n);
    h.sets(0, 0, 0); h.roots(0, NONE); h.weaks(0, 1); h.limit(7);
    due("8 at most", h.count(5), 8);
    h.weaks(0, 1); h.roots(9, 9); h.limit(0); h.list();
    due("refused ones are none", h.count(5), 8);
    due("limit", h.undo(), 7); due("count(2)", h.count(2), 24);
    due("weaks", h.undo(), 6); due("root(6)", h.root(6), NONE);
    due("roots", h.undo(), 5); due("root(0)", h.root(0), 0); due("count(1)", h.count(1), 0);
    due("sets", h.undo(), 4); due("field(0, 0)", h.field(0, 0), NONE); due("object(0, 0)", h.object(0, 0), 1);
    due("count(6)", h.count(6), 1);
    for (int left = 3; left >= 0; left--) due("makes", h.undo(), left);
    due("count(0)", h.count(0), 2);
    due("count(4)", h.count(4), 2);
    due("undo", h.undo(), NONE);
    CountedHeap t = deadRing(1, 1);
    t.trial(); t.trial();
    due("count(0)", t.count(0), 0);
    t.undo();
    due("count(0)", t.count(0), 2); due("object(0, 4)", t.object(0, 4), 1);
    t.undo();
    due("object(0, 4)", t.object(0, 4), 0); due("count(4)", t.count(4), 2); due("logged(3)", t.logged(3), 0);
    // A DAY is one; one of which nothing was done is none.
    CountedHeap d = new CountedHeap();
    day(d, "n1100n1101s00001"); day(d, "t"); day(d, ""); day(d, "x");
    due("count(5)", d.count(5), 1);
    due("undo", d.undo(), 0);
    due("count(0)", d.count(0), 0);
    due("count(7)", d.count(7), 0);
    CountedHeap w = new CountedHeap();
    w.makes(1, 1, 0, 0); w.weaks(1, 0); w.wakes(1, 4);
    due("undo", w.undo(), 2); due("root(4)", w.root(4), NONE); due("object(0, 0)", w.object(0, 0), 1);
  }

  private static int drawn;
  private static int draw(int n) { drawn = drawn * 1103515245 + 12345; return (int) (Integer.toUnsignedLong(drawn) / 65536 % n); }

  private static void years() {
    CountedHeap h = new CountedHeap();
    due("years(1, 0)", h.years(1, 0), NONE);
    due("years(1, 41)", h.years(1, 41), NONE);
    due("years(1, -1)", h.years(1, -1), NONE);
    due("count(6)", h.count(6), 0);
    for (int seed = -20; seed < 60; seed++) {
      int n = seed < 0 ? 40 : 1 + seed % 40;
      CountedHeap g = new CountedHeap();
      CountedHeap by = new CountedHeap();
      g.limit(2 + (seed & 7)); by.limit(2 + (seed & 7));
      drawn = seed * 99991;
      for (int year = 0; year < n; year++) {
        int what = draw(4);
        if (what == 0) { int f = draw(5), e = draw(8), r = draw(6); by.makes(f, 1, e, r); }
        else if (what == 3) { int r = draw(6), to = draw(25); by.roots(r, to == 24 ? NONE : to); }
        else { int o = draw(24), k = draw(4), to = draw(25); by.sets(o, k, to == 24 ? NONE : to); }
      }
      due("years(" + seed * 99991 + ", " + n + ")", g.years(seed * 99991, n), by.all(0));
      row(g, by.count(4), by.count(1));
      due("it is forgotten", g.count(0), 0);
      due("count(4)", g.count(4), 0);
      due("count(5)", g.count(5), 1);
    }
    // By hand: R is 12345 from seed 0, by 65536 that is 0, so the first DRAW is 0: one is made.
    due("years(0, 1)", h.years(0, 1), 1);
    row(h, 1, 0);
  }

  private static void keep() {
    CountedHeap h = chain(2, 1);
    due("keep(2)", h.keep(2), false);
    due("keep(-1)", h.keep(-1), false);
    due("keep(0)", h.keep(0), true);
    due("keep(1)", h.keep(1), true);
    due("count(5)", h.count(5), 4);
    h.roots(0, NONE);
    due("keep(1)", h.keep(1), true);
    h.again(0);
    due("all(0)", h.all(0), 3);
    h.again(1);
    due("all(0)", h.all(0), 0);
  }

  private static void again() {
    CountedHeap h = deadRing(3, 1);
    h.weaks(0, NONE);
    due("again(0)", h.again(0), false);
    due("count(5)", h.count(5), 6);
    h.keep(0);
    due("again(1)", h.again(1), false);
    due("again(2)", h.again(2), false);
    due("again(-1)", h.again(-1), false);
    for (int i : new int[] {32, 64, -32, Integer.MIN_VALUE, Integer.MAX_VALUE}) {
      due("again(" + i + ")", h.again(i), false);
      due("keep(" + i + ")", h.keep(i), false);
    }
    due("count(5)", h.count(5), 6);
    h.trial(); h.limit(3); h.sign(0); h.logged(0);
    due("again(0)", h.again(0), true);
    due("count(5)", h.count(5), 0);
    due("undo", h.undo(), NONE);
    due("count(2)", h.count(2), 24);
    due("THE TEXT is not of 1.", h.count(7), 4);
    row(h, 5);
    due("count(4)", h.count(4), 2);
    due("object(0, 4)", h.object(0, 4), 0);
    due("list", h.list(), 2); row(h, 0, 1);
    due("trial", h.trial(), 0); row(h, 2, 4);
    due("again(0)", h.again(0), true);
    due("what is kept stays as it is", h.count(4), 2);
    due("root(1)", h.root(1), NONE);
  }

  private static void count() {
    CountedHeap h = deadRing(0, 0);
    h.makes(2, 1, 0, 0); h.roots(1, 2); h.sets(2, 0, 2); h.sign(7); h.limit(9); h.list();
    int[] want = {3, 2, 9, 5, 3, 8, 2, 4};
    for (int what = 0; what < 8; what++) due("count(" + what + ")", h.count(what), want[what]);
    due("count(8)", h.count(8), NONE);
    due("count(-1)", h.count(-1), NONE);
  }

  private static void row() {
    CountedHeap h = new CountedHeap();
    none("row(0)", () -> h.row(0));
    h.makes(1, 1, 0, 0); h.roots(1, 0);
    due("row(1)", h.row(1), 0);
    none("row(2)", () -> h.row(2));
    none("row(-1)", () -> h.row(-1));
    none("row(MAX)", () -> h.row(Integer.MAX_VALUE));
    h.list();
    none("row(0)", () -> h.row(0));
  }
}
