import java.util.ArrayList;
import java.util.List;

/** Promises 28 to 34, sentence by sentence: days, undo, years, keep, again, count, row. */
public final class ChangesTest {
  private static final int NONE = CountedHeap.NONE;

  public static void main(String[] args) throws Exception { Sentences.run(ChangesTest.class, 28, 34); }

  private static void due(String call, long got, long want) { Sentences.due(call, got, want); }
  private static void due(String call, boolean got, boolean want) { Sentences.due(call, got, want); }
  private static void row(CountedHeap h, long... want) { Sentences.row(h, want); }
  private static CountedHeap fresh() { return new CountedHeap(); }

  /** 0 and 1 a dead ring, 0 comes back to ROOT 1; 2 in ROOT 0 with 3 in FIELD 0 of 2; WEAK one 1 has 3; LIMIT 9. */
  private static void some(CountedHeap h) {
    Heaps.deadRing(h, 3, 1);
    h.makes(2, 4, 0, 0); h.makes(1, 5, 2, 2); h.sets(2, 0, 3); h.roots(2, NONE);
    h.weaks(1, 3); h.limit(9); h.list();
  }
  private static final Sentences.Setup SOME = ChangesTest::some;

  /** All that Terms 1 tells of is as in the twin, whatever the ROW and THE TEXT are. */
  private static void alike(String what, CountedHeap h, CountedHeap twin) { Sentences.same(what, Heaps.heapOf(h), Heaps.heapOf(twin)); }

  // ---- promise 28

  @Sentences.Says(promise = 28, value = "THE TEXT tells A DAY (an empty one: nothing)")
  static void emptyDay() {
    CountedHeap h = Sentences.made(SOME), twin = Sentences.made(SOME);
    due("day", h.day(), 0); row(h, 0, 4);
    due("count(5)", h.count(5), twin.count(5));
    alike("an empty day", h, twin);
    due("day", fresh().day(), 0);
    // By end(0), too.
    h.sign(0x78787878); h.end(0);
    due("day", h.day(), 0); row(h, 0, 4);
  }

  @Sentences.Says(promise = 28, value = {"n, four digits (FIELDS, WEIGHT, END, ROOT) (makes())", "s, two digits, a digit, two digits (sets(); 99: none)",
      "r, a digit, two digits (roots(); 99: none)", "w, a digit, two digits (weaks(); 99: none)", "k, two digits (wakes())", "t (trial())"})
  static void actsOfADay() {
    String[] texts = {"n4975", "n0100", "s02103", "s02099", "s03003", "r503", "r099", "r502", "w302", "w199", "w002", "k15", "k10", "t"};
    Sentences.Call[] calls = {h -> h.makes(4, 9, 7, 5), h -> h.makes(0, 1, 0, 0), h -> h.sets(2, 1, 3), h -> h.sets(2, 0, NONE), h -> h.sets(3, 0, 3),
        h -> h.roots(5, 3), h -> h.roots(0, NONE), h -> h.roots(5, 2), h -> h.weaks(3, 2), h -> h.weaks(1, NONE), h -> h.weaks(0, 2), h -> h.wakes(1, 5),
        h -> h.wakes(1, 0), h -> h.trial()};
    for (int n = 0; n < texts.length; n++) {
      CountedHeap h = Sentences.made(SOME), twin = Sentences.made(SOME);
      calls[n].on(twin);
      due(texts[n], Heaps.day(h, texts[n]), 1); row(h, 0, twin.count(0));
      due("count(5)", h.count(5), twin.count(5));
      due("count(7)", h.count(7), 0);
      alike(texts[n], h, twin);
    }
    // Two digits: OBJECTS of 10 and more.
    CountedHeap f = Heaps.full();
    due("s23323", Heaps.day(f, "s23323"), 1);
    due("field(23, 3)", f.field(23, 3), 23);
    due("r510", Heaps.day(f, "r510"), 1);
    due("root(5)", f.root(5), 10);
    due("w319", Heaps.day(f, "w319"), 1);
    due("root(9)", f.root(9), 19);
    // LIMIT holds behind each ACT of it.
    CountedHeap l = Heaps.deadRing(0, 0);
    l.limit(2);
    due("n0100n0101", Heaps.day(l, "n0100n0101"), 2); row(l, 0, 2);
    due("all(0)", l.all(0), 5);
  }

  @Sentences.Says(promise = 28, value = "they are done one by one, till one can't be: how many were done; the ROW: 1 if one could not be, else 0, OBJECTS that there are then.")
  static void tillOneCannotBe() {
    String[] cannot = {"n5100", "n0000", "n0180", "n0106", "s04000", "s99099", "s02202", "s02004", "s02003", "s00099", "s02100", "r600", "r004", "r002",
        "r598", "r500", "w400", "w004", "w103", "w000", "w399", "k41", "k16", "k00"};
    for (String text : cannot) {
      CountedHeap h = Sentences.made(SOME), twin = Sentences.made(SOME);
      due(text, Heaps.day(h, text), 0); row(h, 1, 4);
      due("count(5)", h.count(5), twin.count(5));
      due("count(7)", h.count(7), 0);
      alike(text, h, twin);
      // What is ahead of it is done, what is behind it is not.
      CountedHeap g = Sentences.made(SOME);
      twin.roots(4, 2);
      due("r402" + text + "r302", Heaps.day(g, "r402" + text + "r302"), 1); row(g, 1, 4);
      alike("r402" + text + "r302", g, twin);
    }
    CountedHeap t = Heaps.chain(2, 1);
    due("tt", Heaps.day(t, "tt"), 1); row(t, 1, 2);
    CountedHeap f = Heaps.full();
    due("24 are there", Heaps.day(f, "n0100"), 0); row(f, 1, 24);
    // One that is done by the ACT ahead can be done by that behind it.
    CountedHeap d = fresh();
    due("n1100s00000r099t", Heaps.day(d, "n1100s00000r099t"), 4); row(d, 0, 0);
    // 80 signs: 16 are made, each drives the one ahead away.
    StringBuilder most = new StringBuilder();
    for (int n = 0; n < 16; n++) most.append("n0100");
    CountedHeap m = fresh();
    due("16", Heaps.day(m, most.toString()), 16); row(m, 0, 1);
    due("count(4)", m.count(4), 31);
    CountedHeap tt = fresh();
    due("80 t", Heaps.day(tt, "t".repeat(80)), 0); row(tt, 1, 0);
  }

  private static final String EACH = "n0100s02102r502w002k05t";
  private static final String LETTERS = "nsrwkt";

  /** All signs at all places; a letter that stands for a letter changes what is behind it, so those are left out. */
  @Sentences.Says(promise = 28, value = "-1 - p: the sign at p can't stand there")
  static void signsThatCannotStand() {
    for (int p = 0; p < EACH.length(); p++) for (int first = 0; first < 256; first += 32) {
      boolean letter = LETTERS.indexOf(EACH.charAt(p)) >= 0;
      CountedHeap h = Sentences.made(SOME);
      for (int sign = first; sign < first + 32; sign++) {
        boolean can = letter ? LETTERS.indexOf(sign) >= 0 : sign >= '0' && sign <= '9';
        StringBuilder text = new StringBuilder(EACH);
        text.setCharAt(p, (char) sign);
        if (!can) due("sign " + sign + " at " + p, Heaps.day(h, text.toString()), -1 - p);
      }
      nothingIsDone(h);
    }
  }

  @Sentences.Says(promise = 28, value = "-1 - p: the sign at p can't stand there (its end, if it ends too early); nothing is done then.")
  static void endsTooEarly() {
    // Each beginning that is not a whole of ACTS.
    CountedHeap h = Sentences.made(SOME);
    for (int n = 1; n < EACH.length(); n++) {
      boolean whole = LETTERS.indexOf(EACH.charAt(n)) >= 0;
      if (!whole) due("the first " + n + " signs", Heaps.day(h, EACH.substring(0, n)), -1 - n);
    }
    nothingIsDone(h);
    // At the very end of 80 signs.
    CountedHeap g = Sentences.made(SOME);
    due("79 t, n", Heaps.day(g, "t".repeat(79) + "n"), -81);
    due("79 t, x", Heaps.day(g, "t".repeat(79) + "x"), -80);
    due("76 t, n010", Heaps.day(g, "t".repeat(76) + "n010"), -81);
    // A fault at the end stands ahead of an ACT at the beginning that can't be done.
    due("n9999x", Heaps.day(g, "n9999x"), -6);
    due("r402n", Heaps.day(g, "r402n"), -6);
    // Of two faults the first.
    due("n01x0x", Heaps.day(g, "n01x0x"), -4);
    nothingIsDone(g);
  }
  private static void nothingIsDone(CountedHeap h) { Sentences.same("nothing is done", Heaps.told(h), Heaps.told(Sentences.made(SOME))); }

  // ---- promise 29

  /** Each kind of change, and whether undo() makes it as it was. */
  @Sentences.Says(promise = 29, value = "The latest makes(), sets(), roots(), weaks(), wakes(), trial(), limit(), day()")
  static void eachIsUndone() {
    Sentences.Call[] changes = {h -> h.makes(0, 1, 0, 0), h -> h.makes(4, 9, 7, 5), h -> h.sets(2, 0, NONE), h -> h.sets(2, 1, 2), h -> h.roots(0, NONE),
        h -> h.roots(5, 3), h -> h.weaks(1, NONE), h -> h.weaks(0, 2), h -> h.wakes(1, 0), h -> h.wakes(1, 5), CountedHeap::trial, h -> h.limit(1),
        h -> Heaps.day(h, "r099"), h -> Heaps.day(h, "tn1100s00000w099")};
    for (int n = 0; n < changes.length; n++) {
      Sentences.Call change = changes[n];
      String was = Heaps.heapOf(Sentences.made(SOME));
      due("change " + n + " changes something", was.equals(Heaps.heapOf(Sentences.made(h -> { some(h); change.on(h); }))), false);
      CountedHeap h = Sentences.made(SOME);
      change.on(h);
      h.sign(7); h.logged(0);
      long rows = h.row(0);
      due("undo", h.undo(), 7);
      // THE TEXT and the ROW stay.
      due("count(7)", h.count(7), 4);
      row(h, rows);
      Sentences.same("change " + n + " undone", Heaps.heapOf(h), was);
    }
  }

  private static void twelfth(CountedHeap h, int n) { if (n % 3 == 2) Heaps.day(h, "n0100n0101"); else h.limit(n + 1); }
  private static void first(CountedHeap h, int many) { for (int n = 0; n < many; n++) twelfth(h, n); }
  /** Refused ones, questions, THE TEXT, keep() and years() between them are none. */
  private static void twelveAndOthers(CountedHeap h) {
    for (int n = 0; n < 12; n++) {
      twelfth(h, n);
      h.limit(25); h.makes(5, 0, 0, 0); h.sets(0, 0, 0); h.trial(); h.wakes(0, 0); h.weaks(0, NONE);
      Heaps.day(h, ""); Heaps.day(h, "t"); Heaps.day(h, "x");
      h.keep(0); h.years(3, 5); h.would();
      due("count(5)", h.count(5), Math.min(n + 1, 8));
    }
  }

  @Sentences.Says(promise = 29, value = "(of 8 that are kept, the latest ones; such as were done; day() of which one ACT was done, as one)")
  static void eightAreKept() {
    for (int many = 1; many <= 8; many++) {
      CountedHeap h = Sentences.made(ChangesTest::twelveAndOthers);
      for (int n = 1; n <= many; n++) due("undo", h.undo(), 8 - n);
      due("count(5)", h.count(5), 8 - many);
      int left = 12 - many;
      alike(many + " undone", h, Sentences.made(x -> first(x, left)));
      if (many == 8) due("undo", h.undo(), NONE);
    }
  }

  /** Seven are made, five undone, and so on: the first so many steps of that. */
  private static void upAndDown(CountedHeap h, int steps) {
    int can = 0;
    for (int n = 0; n < steps; n++) {
      if (n % 12 < 7) { h.makes(1, 1, 0, n % 5); can = Math.min(can + 1, 8); }
      else due("undo", h.undo(), --can);
    }
  }
  private static void upAlone(CountedHeap h, int steps) {
    List<Integer> roots = new ArrayList<>();
    for (int n = 0; n < steps; n++) if (n % 12 < 7) roots.add(n % 5); else roots.remove(roots.size() - 1);
    for (int root : roots) h.makes(1, 1, 0, root);
  }

  /** The places in which they are kept are used again and again. */
  @Sentences.Says(promise = 29, value = "is undone (THE LOG, too): how many are left that can be.")
  static void undoneAndDoneAgain() {
    for (int n = 0; n <= 60; n++) {
      int steps = n;
      alike("behind " + n + " steps", Sentences.made(h -> upAndDown(h, steps)), Sentences.made(h -> upAlone(h, steps)));
    }
    // THE LOG has its latest 60 rows again.
    CountedHeap l = fresh();
    for (int n = 0; n < 40; n++) l.makes(0, 1, 0, 0);
    String before = Heaps.heapOf(l);
    Heaps.day(l, "n0100n0100n0100n0100n0100n0100n0100n0100n0100n0100n0100n0100n0100n0100n0100n0100");
    due("count(4)", l.count(4), 111);
    due("undo", l.undo(), 7);
    Sentences.same("THE LOG", Heaps.heapOf(l), before);
    due("logged(0)", l.logged(0), 40);
    // Each row of those that were written over: kinds and OBJECTS in another order than behind them.
    CountedHeap o = Sentences.made(ChangesTest::fiftyRows);
    String rows = Heaps.heapOf(o);
    due("day", Heaps.day(o, "n0101n0102n0103n0104n0115n0115n0115n0115n0115n0115n0115n0115n0115n0115n0115n0115"), 16);
    o.undo();
    Sentences.same("THE LOG", Heaps.heapOf(o), rows);
  }

  /** 50 rows of OBJECTS 0 .. 5 by turns. */
  private static void fiftyRows(CountedHeap h) {
    for (int n = 0; n < 6; n++) h.makes(0, 1, 0, n);
    for (int n = 0; n < 22; n++) { h.roots(n * 5 % 6, NONE); h.makes(0, n % 9 + 1, 0, n * 5 % 6); }
    due("rows", h.count(4), 50);
  }

  @Sentences.Says(promise = 29, value = "Refused: none.")
  static void noneToUndo() {
    Sentences.refused(h -> { }, "undo", NONE, CountedHeap::undo);
    Sentences.refused(h -> { h.makes(0, 1, 0, 0); h.undo(); h.sign(1); h.list(); }, "undo", NONE, CountedHeap::undo);
    Sentences.refused(h -> { h.makes(0, 1, 0, 0); h.keep(1); h.again(1); h.all(0); }, "undo", NONE, CountedHeap::undo);
  }

  @Sentences.Says(promise = 29, value = "(again() forgets them, if it is not refused.)")
  static void forgotten() {
    CountedHeap h = Sentences.made(SOME);
    h.keep(0);
    due("again(1)", h.again(1), false);
    due("count(5)", h.count(5), 8);
    due("again(2)", h.again(2), false);
    due("count(5)", h.count(5), 8);
    due("again(0)", h.again(0), true);
    due("count(5)", h.count(5), 0);
    due("undo", h.undo(), NONE);
    h.limit(3);
    due("undo", h.undo(), 0);
    due("count(2)", h.count(2), 9);
  }

  // ---- promise 30

  private static int drawn;
  private static int draw(int n) { drawn = drawn * 1103515245 + 12345; return (int) ((drawn & 0xffffffffL) / 65536 % n); }
  private static int drawTo() { int to = draw(25); return to == 24 ? NONE : to; }

  private static void byHand(CountedHeap h, int seed, int n) {
    drawn = seed;
    for (int year = 0; year < n; year++) {
      int what = draw(4);
      if (what == 0) { int fields = draw(5), end = draw(8), root = draw(6); h.makes(fields, 1, end, root); }
      else if (what == 3) { int root = draw(6); h.roots(root, drawTo()); }
      else { int object = draw(24), field = draw(4); h.sets(object, field, drawTo()); }
    }
  }

  @Sentences.Says(promise = 30, value = {"a DRAW of 4: 0: DRAWS of 5, of 8, of 6: makes() (of FIELDS, an END; WEIGHT 1; ROOT); 1, 2: DRAWS of 24, of 4, of 25: sets() (24: none); 3: DRAWS of 6, of 25: roots() (24: none) (what is refused is not done): OBJECTS that are there then (bits); the ROW: rows THE LOG got, SUSPECTS then.",
      "A DRAW of n: R = R times 1103515245 + 12345 (as ints; R is seed at first), (R without sign, by 65536) % n."})
  static void yearsAsByHand() {
    int[] seeds = {0, 1, -1, 2, 77, 12345, Integer.MIN_VALUE, Integer.MAX_VALUE, 1 << 16, -65536, 0x12345678, 0x87654321};
    Sentences.Setup[] setups = {h -> { }, SOME, h -> { Heaps.full(h); h.limit(3); }, h -> { some(h); h.limit(1); },
        h -> { for (int i = 0; i < 24; i++) { h.makes(4, 1, i % 8, i % 2); h.sets(i / 2, i % 4, i); h.roots(2 + i % 4, i); } }};
    for (int seed : seeds) {
      for (Sentences.Setup setup : setups) {
        for (int n : new int[] {1, 2, 3, 10, 39, 40}) {
          CountedHeap h = Sentences.made(setup), twin = Sentences.made(setup);
          int before = twin.count(4);
          byHand(twin, seed, n);
          due("years(" + seed + ", " + n + ")", h.years(seed, n), twin.all(0));
          row(h, twin.count(4) - before, twin.count(1));
        }
      }
    }
    // By hand: R is 12345 at first, by 65536 that is 0: one is made.
    CountedHeap z = fresh();
    due("years(0, 1)", z.years(0, 1), 1); row(z, 1, 0);
  }

  @Sentences.Says(promise = 30, value = "n times (1 .. 40; it is forgotten)")
  static void yearsAreForgotten() {
    for (int seed = 0; seed < 20; seed++) {
      for (int n : new int[] {1, 40}) {
        CountedHeap h = Sentences.made(SOME), twin = Sentences.made(SOME);
        h.keep(0); twin.keep(0);
        h.years(seed, n); h.list(); twin.list();
        Sentences.same("years", Heaps.told(h), Heaps.told(twin));
        due("undo", h.undo(), twin.undo());
        alike("undo", h, twin);
        h.again(0); twin.again(0);
        alike("again", h, twin);
        // The seed is not gone on with, either.
        due("the same again", h.years(seed, n), twin.years(seed, n));
      }
    }
  }

  @Sentences.Says(promise = 30, value = "NONE: another n")
  static void yearsNone() {
    Sentences.refusedOutside(SOME, "years", 1, 40, NONE, (h, v) -> h.years(7, v));
    Sentences.refusedOutside(SOME, "years", 1, 40, NONE, (h, v) -> h.years(v, v));
  }

  // ---- promise 31

  private static void otherwise(CountedHeap h) {
    h.trial(); h.weaks(0, 2); h.weaks(1, NONE); h.limit(2); h.makes(3, 7, 5, 5); h.sets(2, 1, 2); h.roots(0, NONE); h.makes(0, 1, 1, 4); h.trial();
  }

  @Sentences.Says(promise = 31, value = "All that 1. tells of is kept under a number 0 .. 1: true.")
  static void keep() {
    for (int i = 0; i < 2; i++) {
      CountedHeap h = Sentences.made(SOME), twin = Sentences.made(SOME);
      h.sign(5); h.way(2);
      due("keep(" + i + ")", h.keep(i), true);
      // It changes nothing by itself.
      twin.sign(5); twin.way(2);
      Sentences.same("keep", Heaps.told(h), Heaps.told(twin));
      otherwise(h);
      due("again(" + (1 - i) + ")", h.again(1 - i), false);
      due("again(" + i + ")", h.again(i), true);
      alike("again", h, Sentences.made(SOME));
    }
    // Numbers that come again to others: WEIGHTS, FIELDS, ENDS, THE LOG are as they were.
    CountedHeap w = Sentences.made(ChangesTest::fiftyRows);
    String was = Heaps.heapOf(w);
    w.keep(1);
    for (int r = 0; r < 6; r++) w.roots(r, NONE);
    for (int r = 5; r >= 0; r--) { w.makes(r % 5, 9 - r, 1, r); w.roots(r, NONE); w.makes(4 - r % 4, r + 1, r + 2, r); }
    due("again(1)", w.again(1), true);
    Sentences.same("again", Heaps.heapOf(w), was);
    // Two of them apart; the later one under a number stands for the one ahead.
    CountedHeap h = fresh();
    h.keep(0); h.limit(2); h.keep(1); h.limit(3);
    h.again(0); due("count(2)", h.count(2), 24);
    h.again(1); due("count(2)", h.count(2), 2);
    h.limit(4); h.keep(0); h.again(1); due("count(2)", h.count(2), 2);
    h.again(0); due("count(2)", h.count(2), 4);
    // An empty one can be kept, too; undo() does not undo keep().
    CountedHeap e = fresh();
    due("keep(1)", e.keep(1), true);
    e.makes(0, 1, 0, 0); e.undo();
    due("again(1)", e.again(1), true);
  }

  @Sentences.Says(promise = 31, value = "Refused: others.")
  static void keepOthers() {
    Sentences.refusedOutside(SOME, "keep", 0, 1, 0, (h, v) -> h.keep(v) ? 1 : 0);
    CountedHeap h = fresh();
    for (int v : Sentences.outside(0, 1)) h.keep(v);
    due("again(0)", h.again(0), false);
    due("again(1)", h.again(1), false);
  }

  // ---- promise 32

  @Sentences.Says(promise = 32, value = "It is as it was kept under a number.")
  static void again() {
    CountedHeap h = Sentences.made(SOME);
    h.keep(0); otherwise(h); h.keep(1);
    String other = Heaps.heapOf(h);
    for (int n = 0; n < 3; n++) {
      h.sign(n); h.way(2);
      int numbers = h.count(6), signs = h.count(7);
      due("again(0)", h.again(0), true);
      // THE TEXT and the ROW are of 2.
      due("count(6)", h.count(6), numbers);
      due("count(7)", h.count(7), signs);
      if (n == 0) alike("again(0)", h, Sentences.made(SOME));
      otherwise(h);
      due("again(1)", h.again(1), true);
      if (n == 2) Sentences.same("again(1)", Heaps.heapOf(h), other);
    }
    // ENDS that had not run can run again, as if they had not.
    CountedHeap e = Heaps.deadRing(1, 1);
    e.keep(0);
    due("trial", e.trial(), 0); due("trial", e.trial(), 2);
    e.again(0);
    due("trial", e.trial(), 0); row(e, 2, 4);
  }

  @Sentences.Says(promise = 32, value = "Refused: nothing kept.")
  static void againNone() {
    Sentences.refused(SOME, "again(0)", 0, h -> h.again(0) ? 1 : 0);
    Sentences.refused(SOME, "again(1)", 0, h -> h.again(1) ? 1 : 0);
    Sentences.refused(h -> { some(h); h.keep(0); }, "again(1)", 0, h -> h.again(1) ? 1 : 0);
    Sentences.refused(h -> { some(h); h.keep(1); }, "again(0)", 0, h -> h.again(0) ? 1 : 0);
    Sentences.refusedOutside(h -> { some(h); h.keep(0); h.keep(1); }, "again", 0, 1, 0, (h, v) -> h.again(v) ? 1 : 0);
  }

  // ---- promise 33

  @Sentences.Says(promise = 33, value = "What 0: OBJECTS, 1: SUSPECTS, 2: LIMIT, 3: COUNTS of all together, 4: rows of THE LOG that ever were, 5: what can be undone, 6: numbers of the ROW, 7: signs of THE TEXT.")
  static void count() {
    CountedHeap h = Sentences.made(SOME);
    h.sign(1); h.sign(2); h.end(7);
    int[] want = {4, 3, 9, 4, 4, 8, 3, 7};
    for (int what = 0; what < 8; what++) due("count(" + what + ")", h.count(what), want[what]);
    // The most of each.
    CountedHeap f = Heaps.full();
    for (int i = 5; i < 24; i++) for (int k = 0; k < 4; k++) f.sets(i, k, i);
    for (int r = 0; r < 6; r++) f.roots(r, 0);
    for (int n = 0; n < 20; n++) f.sign(0);
    f.limit(1); f.limit(24); f.ranks(0);
    int there = f.count(0);
    due("COUNTS of all together", f.count(3), 6 + 20 + 4 * (there - 5));
    due("count(5)", f.count(5), 8);
    due("count(6)", f.count(6), there);
    due("count(7)", f.count(7), 80);
    due("24 numbers of the ROW", Heaps.full().ranks(1), 24);
    // Rows that are not of the latest 60 count, undone ones do not.
    CountedHeap l = fresh();
    for (int n = 0; n < 70; n++) l.makes(0, 1, 0, 0);
    due("count(4)", l.count(4), 139);
    l.undo();
    due("count(4)", l.count(4), 137);
  }

  @Sentences.Says(promise = 33, value = "NONE for another what.")
  static void countNone() { Sentences.refusedOutside(SOME, "count", 0, 7, NONE, CountedHeap::count); }

  // ---- promise 34

  @Sentences.Says(promise = 34, value = "Number i of the ROW.")
  static void row() {
    CountedHeap h = Heaps.chain(24, 1);
    h.way(23);
    for (int i = 0; i < 24; i++) due("row(" + i + ")", h.row(i), i);
    h.all(0);
    due("row(0)", h.row(0), 2 * 45 + 21);
  }

  @Sentences.Says(promise = 34, value = "NoSuchElementException: none such.")
  static void rowNone() {
    Sentences.noneOutside(h -> { }, "row of none", 0, -1, CountedHeap::row);
    Sentences.noneOutside(SOME, "row of three", 0, 2, CountedHeap::row);
    Sentences.noneOutside(h -> { Heaps.full(h); h.ranks(1); }, "row of 24", 0, 23, CountedHeap::row);
    // A shorter ROW has nothing of the longer one ahead.
    Sentences.noneOutside(h -> { Heaps.full(h); h.ranks(1); h.all(0); }, "row of one", 0, 0, CountedHeap::row);
    Sentences.noneOutside(h -> { Heaps.full(h); h.ranks(1); h.list(); }, "an empty row", 0, -1, CountedHeap::row);
  }
}
