/** Promises 1 to 10, sentence by sentence: a new object, THE TEXT, acts. */
public final class ActsTest {
  private static final int NONE = CountedHeap.NONE;

  public static void main(String[] args) throws Exception { Sentences.run(ActsTest.class, 1, 10); }

  private static void due(String call, long got, long want) { Sentences.due(call, got, want); }
  private static void due(String call, boolean got, boolean want) { Sentences.due(call, got, want); }
  private static void row(CountedHeap h, long... want) { Sentences.row(h, want); }
  private static void log(CountedHeap h, int from, int... want) { Sentences.log(h, from, want); }
  private static CountedHeap fresh() { return new CountedHeap(); }

  /** 0 and 1 a dead ring, both SUSPECTS; 2 in ROOT 0 and in WEAK one 1 with 2 FIELDS, 3 in its FIELD 0; the ROW has two numbers. */
  private static void some(CountedHeap h) {
    Heaps.deadRing(h, 3, 1);
    h.makes(2, 4, 0, 0); h.makes(1, 5, 0, 2); h.sets(2, 0, 3); h.roots(2, NONE);
    h.weaks(1, 2); h.sign(0x74747474); h.list();
  }

  // ---- promise 1

  @Sentences.Says(promise = 1, value = "No OBJECTS.")
  static void empty() {
    CountedHeap h = fresh();
    due("count(6)", h.count(6), 0);
    Sentences.throwsNone("row(0)", h, x -> x.row(0));
    for (int what = 0; what < 4; what++) { due("all(" + what + ")", h.all(what), 0); row(h, 0); }
    int[] want = {0, 0, 24, 0, 0, 0};
    for (int what = 0; what < 6; what++) due("count(" + what + ")", h.count(what), want[what]);
    due("count(7)", h.count(7), 0);
    for (int what = 0; what < 10; what++) due("root(" + what + ")", h.root(what), NONE);
    for (int kind = 0; kind < 6; kind++) due("logged(" + kind + ")", h.logged(kind), 0);
    for (int i = 0; i < 24; i++) { int n = i; Sentences.throwsNone("object(" + i + ", 0)", h, x -> x.object(n, 0)); }
    due("again(0)", h.again(0), false);
    due("again(1)", h.again(1), false);
    due("undo", h.undo(), NONE);
    // Two of them have nothing in common.
    CountedHeap g = fresh();
    g.makes(0, 1, 0, 0); g.sign(1); g.limit(2); g.keep(0);
    due("count(0)", h.count(0), 0);
    due("count(2)", h.count(2), 24);
    due("count(7)", h.count(7), 0);
    due("again(0)", h.again(0), false);
  }

  // ---- promise 2

  @Sentences.Says(promise = 2, value = "Four signs come behind THE TEXT, of v the highest byte first: how many it has.")
  static void fourSigns() {
    CountedHeap h = fresh();
    for (int n = 1; n <= 20; n++) due("sign", h.sign(n % 2 == 0 ? Integer.MIN_VALUE : -1), 4 * n);
    // Each byte at its place: "n", then "010" of "n0100" .. read by day().
    CountedHeap g = fresh();
    due("sign", g.sign(0x6e333537), 4);
    due("sign", g.sign(0x34000000), 8);
    due("end", g.end(5), true);
    due("day", g.day(), 1);
    due("object(0, 1)", g.object(0, 1), 3);
    due("object(0, 2)", g.object(0, 2), 5);
    due("object(0, 3)", g.object(0, 3), 7);
    due("root(4)", g.root(4), 0);
    // Bytes above 127 are no letters.
    int[] high = {0xee303130, 0x6eb03130, 0x6e30b130, 0x6e3031b0};
    for (int p = 0; p < 4; p++) { g.sign(high[p]); due("day", g.day(), -1 - p); }
  }

  @Sentences.Says(promise = 2, value = "Refused: there would be more than 80.")
  static void eightySigns() {
    for (int size = 74; size <= 80; size++) {
      int n = size;
      Sentences.Setup setup = h -> { for (int k = 0; k < 20; k++) h.sign(0x74747474); h.end(n); };
      if (size > 76) {
        Sentences.refused(setup, "sign behind " + size, NONE, h -> h.sign(0x74747474));
        CountedHeap h = Sentences.made(setup);
        h.sign(0);
        due("count(7)", h.count(7), size);
      } else {
        CountedHeap h = Sentences.made(setup);
        due("sign behind " + size, h.sign(0), size + 4);
      }
    }
  }

  // ---- promise 3

  @Sentences.Says(promise = 3, value = "THE TEXT has its first n signs alone: true; false if it has not so many, or n is below 0")
  static void ends() {
    Sentences.Setup setup = h -> { h.sign(0x74747474); h.sign(0x78787878); h.end(7); };
    Sentences.refusedOutside(setup, "end", 0, 7, 0, (h, v) -> h.end(v) ? 1 : 0);
    for (int n = 0; n <= 7; n++) {
      CountedHeap h = Sentences.made(setup);
      due("end(" + n + ")", h.end(n), true);
      due("count(7)", h.count(7), n);
      due("end(" + (n + 1) + ")", h.end(n + 1), false);
      // The first ones, not the last ones: "tttt" can't be done, "ttttx" has its fault at 4.
      due("day", h.day(), n <= 4 ? 0 : -5);
    }
    CountedHeap e = fresh();
    due("empty", e.end(0), true);
    due("empty", e.end(1), false);
    // What was taken away does not come again.
    e.sign(0x74747474); e.end(1); e.sign(0x78787878); e.end(2);
    due("day", e.day(), -2);
    for (int k = 0; k < 20; k++) e.sign(0);
    due("all 80", e.end(80), true);
    due("81", e.end(81), false);
  }

  // ---- promise 4

  @Sentences.Says(promise = 4, value = "A new OBJECT, with so many FIELDS, all empty; it is laid into a ROOT: its number; the ROW: how many rows THE LOG got by it.")
  static void makes() {
    for (int r = 0; r < 6; r++) {
      CountedHeap h = fresh();
      due("makes", h.makes(r % 5, r + 4, r, r), 0); row(h, 1);
      for (int what = 0; what < 6; what++) due("root(" + what + ")", h.root(what), what == r ? 0 : NONE);
      for (int k = 0; k < r % 5; k++) due("field(0, " + k + ")", h.field(0, k), NONE);
      int[] want = {1, r % 5, r + 4, r, 0, 0, 1};
      for (int what = 0; what < 7; what++) due("object(0, " + what + ")", h.object(0, what), want[what]);
      log(h, 0, 0, 0);
    }
    // Who was in the ROOT goes: two rows; one that comes back to it drives the new one away: its number all the same.
    CountedHeap g = fresh();
    g.makes(0, 1, 0, 0);
    due("makes", g.makes(0, 1, 2, 0), 1); row(g, 2); log(g, 1, 0, 1, 1, 0);
    due("makes", g.makes(0, 1, 0, 0), 0); row(g, 4); log(g, 3, 0, 0, 3, 1, 4, 1, 1, 0);
    due("all(0)", g.all(0), 2);
    // Rows of the TRIAL behind it are counted, too.
    CountedHeap t = Heaps.deadRing(0, 0);
    t.limit(2);
    due("makes", t.makes(0, 1, 0, 0), 2); row(t, 3);
  }

  @Sentences.Says(promise = 4, value = "-2: there are 24 (as it would be made, ahead of the ROOT)")
  static void makesAs24() {
    // 23 of them hang on 0, the last in ROOT 1: that would go, but only behind it.
    Sentences.Setup all = h -> {
      h.makes(4, 1, 0, 0);
      for (int i = 1; i < 24; i++) { h.makes(4, 1, 0, 1); if (i < 23) h.sets((i - 1) / 4, (i - 1) % 4, i); }
      h.trial(); h.holders(0);
    };
    for (int r = 0; r < 6; r++) { int root = r; Sentences.refused(all, "makes as there are 24", -2, h -> h.makes(4, 9, 7, root)); }
    // Also if they are all dead and a TRIAL would free them.
    Sentences.Setup dead = h -> { Heaps.chain(h, 24, 1); h.sets(23, 0, 0); h.trial(); h.roots(0, NONE); h.list(); };
    Sentences.refused(dead, "makes as there are 24 dead ones", -2, h -> h.makes(0, 1, 0, 0));
    CountedHeap h = Sentences.made(all);
    h.roots(1, NONE);
    due("of 23", h.makes(0, 1, 0, 1), 23);
    due("of 24", h.makes(0, 1, 0, 1), -2);
  }

  @Sentences.Says(promise = 4, value = "NONE: FIELDS, WEIGHT, END, ROOT out of bounds.")
  static void makesOutOfBounds() {
    Sentences.refusedOutside(ActsTest::some, "FIELDS", 0, 4, NONE, (h, v) -> h.makes(v, 1, 0, 0));
    Sentences.refusedOutside(ActsTest::some, "WEIGHT", 1, 9, NONE, (h, v) -> h.makes(0, v, 0, 0));
    Sentences.refusedOutside(ActsTest::some, "END", 0, 7, NONE, (h, v) -> h.makes(0, 1, v, 0));
    Sentences.refusedOutside(ActsTest::some, "ROOT", 0, 5, NONE, (h, v) -> h.makes(0, 1, 0, v));
    // The least and the greatest can be.
    CountedHeap h = fresh();
    due("makes(0, 1, 0, 0)", h.makes(0, 1, 0, 0), 0);
    due("makes(4, 9, 7, 5)", h.makes(4, 9, 7, 5), 1);
  }

  // ---- promise 5

  @Sentences.Says(promise = 5, value = "A FIELD of an OBJECT becomes another one (NONE: none): how many rows THE LOG got; the ROW: OBJECTS that there are, SUSPECTS.")
  static void sets() {
    CountedHeap h = Heaps.chain(3, 2);
    h.trial();
    due("sets(2, 1, 0)", h.sets(2, 1, 0), 0); row(h, 3, 0);
    due("field(2, 1)", h.field(2, 1), 0);
    due("sets(2, 1, 1)", h.sets(2, 1, 1), 0); row(h, 3, 1);
    due("sets(2, 1, NONE)", h.sets(2, 1, NONE), 0); row(h, 3, 2);
    due("sets(0, 0, NONE)", h.sets(0, 0, NONE), 2); row(h, 1, 1);
    due("field(0, 0)", h.field(0, 0), NONE);
    due("itself", h.sets(0, 0, 0), 0); row(h, 1, 1);
    // One that it holds may be put into each FIELD.
    CountedHeap f = fresh();
    f.makes(4, 1, 0, 0); f.makes(0, 1, 0, 1);
    for (int k = 0; k < 4; k++) due("sets(0, " + k + ", 1)", f.sets(0, k, 1), 0);
    due("object(1, 0)", f.object(1, 0), 5);
    // Rows of the TRIAL behind it are counted, OBJECTS and SUSPECTS are told behind it.
    CountedHeap t = Heaps.deadRing(0, 0);
    t.makes(1, 1, 0, 0); t.limit(2);
    due("sets(2, 0, 2)", t.sets(2, 0, 2), 2); row(t, 1, 0);
  }

  @Sentences.Says(promise = 5, value = "-2: it is so")
  static void setsAsItIs() {
    Sentences.refused(ActsTest::some, "the same one", -2, h -> h.sets(2, 0, 3));
    Sentences.refused(ActsTest::some, "none", -2, h -> h.sets(2, 1, NONE));
    // Of dead ones it is so, too: that stands ahead of -3.
    Sentences.refused(ActsTest::some, "dead ones", -2, h -> h.sets(0, 0, 1));
  }

  @Sentences.Says(promise = 5, value = "-3: one of both OBJECTS is not REACHED")
  static void setsDead() {
    Sentences.refused(ActsTest::some, "the first", -3, h -> h.sets(0, 0, 2));
    Sentences.refused(ActsTest::some, "the first, to none", -3, h -> h.sets(0, 0, NONE));
    Sentences.refused(ActsTest::some, "the other", -3, h -> h.sets(2, 0, 0));
    Sentences.refused(ActsTest::some, "both", -3, h -> h.sets(1, 0, 1));
  }

  @Sentences.Says(promise = 5, value = "NONE: no such OBJECT, FIELD, other one")
  static void setsNoSuch() {
    Sentences.refusedOutside(ActsTest::some, "OBJECT", 0, 3, NONE, (h, v) -> h.sets(v, 0, 2));
    Sentences.refusedOutside(ActsTest::some, "FIELD of 2", 0, 1, NONE, (h, v) -> h.sets(2, v, 2));
    Sentences.refusedOutside(ActsTest::some, "FIELD of 3", 0, 0, NONE, (h, v) -> h.sets(3, v, 2));
    Sentences.refusedOutside(ActsTest::some, "other one", -1, 3, NONE, (h, v) -> h.sets(2, 1, v));
    // One that has gone, and one without FIELDS.
    Sentences.Setup gone = h -> { for (int i = 0; i < 3; i++) h.makes(i == 0 ? 1 : 0, 1, 0, i); h.roots(1, NONE); };
    Sentences.refused(gone, "an OBJECT that has gone", NONE, h -> h.sets(1, 0, 0));
    Sentences.refused(gone, "another one that has gone", NONE, h -> h.sets(0, 0, 1));
    Sentences.refused(gone, "no FIELDS", NONE, h -> h.sets(2, 0, 0));
  }

  // ---- promise 6

  @Sentences.Says(promise = 6, value = "A ROOT becomes an OBJECT (NONE: none): as sets().")
  static void roots() {
    for (int r = 0; r < 6; r++) {
      CountedHeap h = Heaps.chain(2, 1);
      h.trial();
      due("roots(" + r + ", 1)", h.roots(r, 1), r == 0 ? 1 : 0); row(h, r == 0 ? 1 : 2, r == 0 ? 1 : 0);
      due("root(" + r + ")", h.root(r), 1);
      due("roots(" + r + ", NONE)", h.roots(r, NONE), r == 0 ? 1 : 0); row(h, r == 0 ? 0 : 2, r == 0 ? 0 : 1);
      due("root(" + r + ")", h.root(r), NONE);
    }
    CountedHeap t = Heaps.deadRing(0, 0);
    t.makes(1, 1, 0, 0); t.limit(2);
    due("roots(5, 2)", t.roots(5, 2), 2); row(t, 1, 0);
  }

  @Sentences.Says(promise = 6, value = "-2, -3: as sets()")
  static void rootsAsItIsOrDead() {
    Sentences.refused(ActsTest::some, "the same one", -2, h -> h.roots(0, 2));
    Sentences.refused(ActsTest::some, "none", -2, h -> h.roots(5, NONE));
    Sentences.refused(ActsTest::some, "dead", -3, h -> h.roots(0, 0));
    Sentences.refused(ActsTest::some, "dead", -3, h -> h.roots(5, 1));
  }

  @Sentences.Says(promise = 6, value = "NONE: no such ROOT, OBJECT")
  static void rootsNoSuch() {
    Sentences.refusedOutside(ActsTest::some, "ROOT", 0, 5, NONE, (h, v) -> h.roots(v, 2));
    Sentences.refusedOutside(ActsTest::some, "ROOT, none", 0, 5, NONE, (h, v) -> h.roots(v, NONE));
    Sentences.refusedOutside(ActsTest::some, "OBJECT", -1, 3, NONE, (h, v) -> h.roots(1, v));
    Sentences.refusedOutside(h -> { }, "OBJECT of none", -1, -1, NONE, (h, v) -> h.roots(1, v));
  }

  // ---- promise 7

  @Sentences.Says(promise = 7, value = "A WEAK one becomes an OBJECT (NONE: none; no ACT that counts): what was in it (NONE).")
  static void weaks() {
    for (int w = 0; w < 4; w++) {
      CountedHeap h = Heaps.chain(2, 1);
      h.list();
      due("weaks(" + w + ", 1)", h.weaks(w, 1), NONE); due("root", h.root(6 + w), 1);
      due("weaks(" + w + ", 0)", h.weaks(w, 0), 1); due("root", h.root(6 + w), 0);
      due("weaks(" + w + ", NONE)", h.weaks(w, NONE), 0); due("root", h.root(6 + w), NONE);
      for (int v = 0; v < 4; v++) due("root", h.root(6 + v), NONE);
      // COUNTS, THE LIST, THE LOG, the ROW do not see it.
      due("object(1, 0)", h.object(1, 0), 1);
      due("count(4)", h.count(4), 2);
      row(h, 1);
    }
    // One that is MEANT stays so; no TRIAL comes by it.
    CountedHeap m = Heaps.chain(2, 1);
    m.limit(1);
    m.weaks(0, 1);
    due("object(1, 5)", m.object(1, 5), 1);
    due("count(1)", m.count(1), 1);
  }

  @Sentences.Says(promise = 7, value = "-2: it is so")
  static void weaksAsItIs() {
    Sentences.refused(ActsTest::some, "the same one", -2, h -> h.weaks(1, 2));
    Sentences.refused(ActsTest::some, "none", -2, h -> h.weaks(3, NONE));
    // A dead one that is in it: it is so stands ahead of -3.
    Sentences.Setup dead = h -> { h.makes(1, 1, 0, 0); h.sets(0, 0, 0); h.weaks(2, 0); h.roots(0, NONE); };
    Sentences.refused(dead, "a dead one", -2, h -> h.weaks(2, 0));
    CountedHeap d = Sentences.made(dead);
    due("a dead one may be taken away", d.weaks(2, NONE), 0);
  }

  @Sentences.Says(promise = 7, value = "-3: it is not REACHED")
  static void weaksDead() {
    Sentences.refused(ActsTest::some, "dead", -3, h -> h.weaks(0, 0));
    Sentences.refused(ActsTest::some, "dead", -3, h -> h.weaks(1, 1));
  }

  @Sentences.Says(promise = 7, value = "-4: no such WEAK one, OBJECT (ahead of these)")
  static void weaksNoSuch() {
    Sentences.refusedOutside(ActsTest::some, "WEAK one", 0, 3, -4, (h, v) -> h.weaks(v, 2));
    Sentences.refusedOutside(ActsTest::some, "WEAK one, none", 0, 3, -4, (h, v) -> h.weaks(v, NONE));
    Sentences.refusedOutside(ActsTest::some, "WEAK one, dead", 0, 3, -4, (h, v) -> h.weaks(v, 0));
    Sentences.refusedOutside(ActsTest::some, "OBJECT", -1, 3, -4, (h, v) -> h.weaks(0, v));
  }

  // ---- promise 8

  @Sentences.Says(promise = 8, value = "The OBJECT of a WEAK one is laid into a ROOT: as sets().")
  static void wakes() {
    for (int w = 0; w < 4; w++) {
      for (int r = 0; r < 6; r++) {
        CountedHeap h = fresh();
        h.makes(1, 1, 0, 0); h.makes(0, 1, 0, 5); h.sets(0, 0, 0); h.weaks(w, 0); h.roots(0, NONE);
        due("dead", h.object(0, 6), 0);
        due("wakes(" + w + ", " + r + ")", h.wakes(w, r), r == 5 ? 1 : 0); row(h, r == 5 ? 1 : 2, 1);
        due("root(" + r + ")", h.root(r), 0);
        due("object(0, 0)", h.object(0, 0), 2);
        due("object(0, 5)", h.object(0, 5), 2);
        due("the WEAK one has it yet", h.root(6 + w), 0);
      }
    }
    // One that is REACHED may be laid, too.
    CountedHeap g = Heaps.chain(2, 1);
    g.weaks(0, 1);
    due("wakes(0, 0)", g.wakes(0, 0), 1); row(g, 1, 1);
  }

  @Sentences.Says(promise = 8, value = "-2: it is there")
  static void wakesThere() {
    Sentences.refused(ActsTest::some, "it is there", -2, h -> h.wakes(1, 0));
    Sentences.Setup twice = h -> { some(h); h.wakes(1, 5); };
    Sentences.refused(twice, "it is there", -2, h -> h.wakes(1, 5));
  }

  @Sentences.Says(promise = 8, value = "-3: the WEAK one has none (ahead of -2)")
  static void wakesNone() {
    Sentences.refused(ActsTest::some, "none, the ROOT has one", -3, h -> h.wakes(0, 0));
    Sentences.refused(ActsTest::some, "none, the ROOT has none", -3, h -> h.wakes(0, 5));
    Sentences.refused(h -> { }, "none at all", -3, h -> h.wakes(3, 5));
  }

  @Sentences.Says(promise = 8, value = "NONE: no such WEAK one, ROOT")
  static void wakesNoSuch() {
    Sentences.refusedOutside(ActsTest::some, "WEAK one", 0, 3, NONE, (h, v) -> h.wakes(v, 0));
    Sentences.refusedOutside(ActsTest::some, "ROOT", 0, 5, NONE, (h, v) -> h.wakes(1, v));
    Sentences.refusedOutside(ActsTest::some, "ROOT, the WEAK one has none", 0, 5, NONE, (h, v) -> h.wakes(0, v));
  }

  // ---- promise 9

  @Sentences.Says(promise = 9, value = "A TRIAL: how many are FREED by it (also those FREED as COUNTS were 0 behind ENDS); the ROW: ENDS that ran, VISITS.")
  static void trial() {
    CountedHeap h = Heaps.deadRing(0, 0);
    due("trial", h.trial(), 2); row(h, 0, 4);
    // 0 comes back to ROOT 3: 2 goes from there, and 3 with it, whose END runs.
    CountedHeap b = Heaps.deadRing(5, 0);
    b.makes(1, 1, 0, 3); b.makes(0, 1, 1, 4); b.sets(2, 0, 3); b.roots(4, NONE);
    due("trial", b.trial(), 2); row(b, 2, 4);
    due("logged(1)", b.logged(1), 2);
    due("all(0)", b.all(0), 3);
    // What was FREED, what ENDS ran ahead of it are not told again.
    b.roots(3, NONE);
    due("trial", b.trial(), 2); row(b, 0, 4);
    due("logged(2)", b.logged(2), 2);
    // None is FREED.
    CountedHeap k = Heaps.chain(3, 1);
    due("trial", k.trial(), 0); row(k, 0, 4);
    // A TRIAL of those that are not MEANT.
    CountedHeap n = Heaps.chain(2, 1);
    n.roots(5, 1);
    due("trial", n.trial(), 0); row(n, 0, 0);
    due("count(1)", n.count(1), 0);
  }

  @Sentences.Says(promise = 9, value = "-2: THE LIST is empty")
  static void trialOfNone() {
    Sentences.refused(h -> { }, "trial", -2, CountedHeap::trial);
    Sentences.refused(h -> { Heaps.chain(h, 3, 1); h.trial(); h.way(2); }, "trial", -2, CountedHeap::trial);
    // A second one behind that which emptied it.
    Sentences.refused(h -> { Heaps.deadRing(h, 0, 0); h.makes(1, 1, 0, 0); h.trial(); }, "trial", -2, CountedHeap::trial);
  }

  // ---- promise 10

  @Sentences.Says(promise = 10, value = "LIMIT becomes v (1 .. 24): what it was (no TRIAL comes by that).")
  static void limit() {
    CountedHeap h = Heaps.deadRing(0, 0);
    h.list();
    int was = 24;
    for (int v = 1; v <= 24; v++) {
      due("limit(" + v + ")", h.limit(v), was); due("count(2)", h.count(2), v);
      was = v;
    }
    due("limit(1)", h.limit(1), 24);
    due("no TRIAL", h.count(1), 2);
    row(h, 0, 1);
    h.makes(0, 1, 0, 0);
    due("count(1)", h.count(1), 0);
  }

  @Sentences.Says(promise = 10, value = "-2: it is so")
  static void limitAsItIs() {
    Sentences.refused(ActsTest::some, "limit(24)", -2, h -> h.limit(24));
    for (int v = 1; v < 24; v++) { int limit = v; Sentences.refused(h -> h.limit(limit), "limit(" + v + ")", -2, h -> h.limit(limit)); }
  }

  @Sentences.Says(promise = 10, value = "NONE: another v")
  static void limitAnother() { Sentences.refusedOutside(ActsTest::some, "limit", 1, 24, NONE, CountedHeap::limit); }
}
