/** Promises 11 to 27, sentence by sentence: what there is, what would be, the log. */
public final class QuestionsTest {
  private static final int NONE = CountedHeap.NONE;

  public static void main(String[] args) throws Exception { Sentences.run(QuestionsTest.class, 11, 27); }

  private static void due(String call, long got, long want) { Sentences.due(call, got, want); }
  private static void row(CountedHeap h, long... want) { Sentences.row(h, want); }
  private static CountedHeap fresh() { return new CountedHeap(); }

  /** 0 and 1 a dead ring; 2 in ROOTS 0 and 4 and WEAK ones 1 and 3, with 3 in FIELDS 0 and 2; 4 in ROOT 1 without FIELDS; 5 has gone. */
  private static void some(CountedHeap h) {
    Heaps.deadRing(h, 3, 0);
    h.makes(3, 4, 1, 0); h.makes(1, 5, 7, 2); h.makes(0, 9, 0, 1); h.makes(0, 1, 0, 5);
    h.sets(2, 0, 3); h.sets(2, 2, 3); h.roots(2, NONE); h.roots(4, 2); h.roots(5, NONE);
    h.weaks(1, 2); h.weaks(3, 2); h.sign(0x74747474); h.way(3);
  }
  private static final Sentences.Setup SOME = QuestionsTest::some;

  // ---- promise 11

  @Sentences.Says(promise = 11, value = "what 0: COUNT, 1: how many FIELDS, 2: WEIGHT, 3: END, 4: 1 if that ran, else 0, 5: 1 if it is a SUSPECT that is MEANT, 2 if it is one that is not MEANT, else 0, 6: 1 if it is REACHED, else 0")
  static void object() {
    CountedHeap h = Sentences.made(SOME);
    int[][] want = {{1, 1, 2, 3, 0, 1, 0}, {1, 1, 3, 0, 0, 1, 0}, {2, 3, 4, 1, 0, 0, 1}, {2, 1, 5, 7, 0, 1, 1}, {1, 0, 9, 0, 0, 0, 1}};
    for (int i = 0; i < 5; i++) for (int what = 0; what < 7; what++) due("object(" + i + ", " + what + ")", h.object(i, what), want[i][what]);
    h.roots(3, 3);
    due("not MEANT", h.object(3, 5), 2);
    h.trial();
    due("it ran", h.object(0, 4), 1);
    due("none to run", h.object(1, 4), 0);
    due("it did not run", h.object(3, 4), 0);
    due("off THE LIST", h.object(3, 5), 0);
  }

  @Sentences.Says(promise = 11, value = "NoSuchElementException: none such, another what")
  static void objectNone() {
    for (int w = 0; w < 7; w++) { int what = w; Sentences.noneOutside(SOME, "object of what " + w, 0, 4, (h, v) -> h.object(v, what)); }
    Sentences.noneOutside(SOME, "what", 0, 6, (h, v) -> h.object(2, v));
    Sentences.noneOutside(h -> { }, "object of none", 0, -1, (h, v) -> h.object(v, 0));
    Sentences.none(SOME, "object(5, 0), which has gone", h -> h.object(5, 0));
    Sentences.none(SOME, "object(5, 7)", h -> h.object(5, 7));
  }

  // ---- promise 12

  @Sentences.Says(promise = 12, value = "The OBJECT in a FIELD (NONE: none)")
  static void field() {
    CountedHeap h = Sentences.made(SOME);
    int[] want = {3, NONE, 3};
    for (int k = 0; k < 3; k++) due("field(2, " + k + ")", h.field(2, k), want[k]);
    due("of a dead one", h.field(1, 0), 0);
  }

  @Sentences.Says(promise = 12, value = "NoSuchElementException: no such OBJECT, FIELD")
  static void fieldNone() {
    Sentences.noneOutside(SOME, "OBJECT", 0, 3, (h, v) -> h.field(v, 0));
    Sentences.noneOutside(SOME, "FIELD of 2", 0, 2, (h, v) -> h.field(2, v));
    Sentences.noneOutside(SOME, "FIELD of 3", 0, 0, (h, v) -> h.field(3, v));
    Sentences.noneOutside(SOME, "FIELD of 4", 0, -1, (h, v) -> h.field(4, v));
    // One that has gone had FIELDS.
    Sentences.none(h -> { h.makes(4, 1, 0, 0); h.sets(0, 0, 0); h.roots(0, NONE); h.trial(); }, "field(0, 0)", h -> h.field(0, 0));
    Sentences.none(h -> { h.makes(4, 1, 0, 0); h.roots(0, NONE); }, "field(0, 3)", h -> h.field(0, 3));
  }

  // ---- promise 13

  @Sentences.Says(promise = 13, value = "The OBJECT in a ROOT (what 0 .. 5), a WEAK one (6 .. 9; NONE: none)")
  static void root() {
    CountedHeap h = Sentences.made(SOME);
    int[] want = {2, 4, NONE, NONE, 2, NONE, NONE, 2, NONE, 2};
    for (int what = 0; what < 10; what++) due("root(" + what + ")", h.root(what), want[what]);
    h.roots(5, 4); h.roots(0, NONE); h.weaks(0, 4); h.weaks(3, NONE);
    int[] then = {NONE, 4, NONE, NONE, 2, 4, 4, 2, NONE, NONE};
    for (int what = 0; what < 10; what++) due("root(" + what + ")", h.root(what), then[what]);
  }

  @Sentences.Says(promise = 13, value = "NoSuchElementException: another what")
  static void rootNone() { Sentences.noneOutside(SOME, "root", 0, 9, CountedHeap::root); }

  // ---- promise 14

  @Sentences.Says(promise = 14, value = "OBJECTS (bits) that are there (what 0), REACHED (1), dead: not REACHED (2), SUSPECTS (3); the ROW: WEIGHTS of these together.")
  static void all() {
    Sentences.asks(SOME, "all(0)", 31, h -> h.all(0), 23);
    Sentences.asks(SOME, "all(1)", 28, h -> h.all(1), 18);
    Sentences.asks(SOME, "all(2)", 3, h -> h.all(2), 5);
    Sentences.asks(SOME, "all(3)", 11, h -> h.all(3), 10);
    for (int w = 0; w < 4; w++) { int what = w; Sentences.asks(h -> { }, "all(" + w + ") of none", 0, h -> h.all(what), 0); }
    // 24 of the greatest WEIGHT.
    CountedHeap f = fresh();
    f.makes(4, 9, 0, 0);
    for (int i = 1; i < 24; i++) { f.makes(4, 9, 0, 1); f.sets((i - 1) / 4, (i - 1) % 4, i); }
    due("all(0)", f.all(0), 0xffffff); row(f, 216);
    due("all(1)", f.all(1), 0xffffff); row(f, 216);
    due("all(2)", f.all(2), 0); row(f, 0);
    // SUSPECTS that are not MEANT are SUSPECTS.
    CountedHeap s = Sentences.made(SOME);
    s.roots(3, 3);
    due("all(3)", s.all(3), 11);
  }

  @Sentences.Says(promise = 14, value = "NONE: another what")
  static void allNone() { Sentences.refusedOutside(SOME, "all", 0, 3, NONE, CountedHeap::all); }

  // ---- promise 15

  @Sentences.Says(promise = 15, value = "SUSPECTS: how many; the ROW: they, in order.")
  static void list() {
    Sentences.asks(SOME, "list", 3, CountedHeap::list, 0, 1, 3);
    Sentences.asks(h -> { }, "list", 0, CountedHeap::list);
    Sentences.asks(h -> { Heaps.chain(h, 24, 1); h.roots(5, 0); }, "list", 23, CountedHeap::list,
        1, 2, 3, 4, 5, 6, 7, 8, 9, 10, 11, 12, 13, 14, 15, 16, 17, 18, 19, 20, 21, 22, 23);
    // Not by numbers, and those that are not MEANT too.
    Sentences.asks(h -> { some(h); h.roots(4, NONE); h.sets(2, 0, 2); h.sets(2, 0, NONE); }, "list", 4, CountedHeap::list, 0, 1, 3, 2);
  }

  // ---- promise 16

  @Sentences.Says(promise = 16, value = "OBJECTS that have one in a FIELD (bits); the ROW: ROOTS that have it (bits), WEAK ones (bits).")
  static void holders() {
    Sentences.asks(SOME, "of none", 0, h -> h.holders(2), 17, 10);
    Sentences.asks(SOME, "two FIELDS of one", 4, h -> h.holders(3), 0, 0);
    Sentences.asks(SOME, "a dead one", 2, h -> h.holders(0), 0, 0);
    Sentences.asks(SOME, "a dead one", 1, h -> h.holders(1), 0, 0);
    Sentences.asks(h -> { some(h); h.sets(3, 0, 3); }, "itself", 12, h -> h.holders(3), 0, 0);
    Sentences.Setup most = h -> {
      Heaps.full(h);
      for (int i = 5; i < 24; i++) h.sets(i, 3, 23);
      for (int r = 0; r < 6; r++) h.roots(r, 23);
      h.undo();
      for (int w = 0; w < 4; w++) h.weaks(w, 23);
    };
    CountedHeap m = Sentences.made(most);
    due("holders(23)", m.holders(23), m.all(0) & ~31); m.holders(23);
    row(m, 31, 15);
  }

  @Sentences.Says(promise = 16, value = "NONE: no such OBJECT")
  static void holdersNone() {
    Sentences.refusedOutside(SOME, "holders", 0, 4, NONE, CountedHeap::holders);
    Sentences.refusedOutside(h -> { }, "holders of none", 0, -1, NONE, CountedHeap::holders);
  }

  // ---- promise 17

  @Sentences.Says(promise = 17, value = "The way to an OBJECT: of the fewest OBJECTS from one in a ROOT, at the first unlike place the lesser: how many; the ROW: they.")
  static void way() {
    Sentences.asks(SOME, "in a ROOT", 1, h -> h.way(2), 2);
    Sentences.asks(SOME, "in a FIELD", 2, h -> h.way(3), 2, 3);
    // 0, 5, 6 and 1, 2, 6: the first unlike place is the first one, though 2 is less than 5.
    Sentences.Setup two = h -> {
      for (int i = 0; i < 6; i++) h.makes(3, 1, 0, i);
      h.sets(0, 0, 5); h.sets(1, 0, 2); h.sets(0, 1, 3); h.sets(3, 0, 4);
      h.roots(5, NONE); h.roots(2, NONE); h.roots(3, NONE); h.roots(4, NONE);
      h.makes(1, 1, 0, 2); h.sets(5, 0, 6); h.sets(2, 0, 6); h.sets(4, 0, 6); h.roots(2, NONE);
    };
    Sentences.asks(two, "the lesser at the first place", 3, h -> h.way(6), 0, 5, 6);
    // 0, 3, 4, 6 is longer, though 3 is less than 5.
    Sentences.asks(h -> { two.on(h); h.sets(5, 0, NONE); }, "fewer ahead of lesser", 3, h -> h.way(6), 1, 2, 6);
    Sentences.asks(h -> { two.on(h); h.sets(5, 0, NONE); h.sets(2, 0, NONE); }, "the only one", 4, h -> h.way(6), 0, 3, 4, 6);
    // At the second place: FIELD 0 has 5, FIELD 1 has 3: 3 is the lesser one.
    Sentences.asks(h -> { two.on(h); h.sets(3, 0, 6); }, "the lesser at the second place", 3, h -> h.way(6), 0, 3, 6);
    // Of two ROOTS the lesser OBJECT, not the lesser ROOT.
    Sentences.asks(h -> { h.makes(1, 1, 0, 5); h.makes(1, 1, 0, 0); h.makes(0, 1, 0, 1); h.sets(0, 0, 2); h.sets(1, 0, 2); h.roots(1, NONE); },
        "the lesser OBJECT", 2, h -> h.way(2), 0, 2);
    // 0 is no way to 3, though 1 has it: 2, 4, 3 and not 1, ..
    Sentences.asks(h -> {
      for (int i = 0; i < 5; i++) h.makes(1, 1, 0, i);
      h.sets(1, 0, 0); h.sets(2, 0, 4); h.sets(4, 0, 3); h.roots(0, NONE); h.roots(3, NONE); h.roots(4, NONE);
    }, "0 is no way", 3, h -> h.way(3), 2, 4, 3);
    // A way that goes down to 0.
    Sentences.asks(h -> {
      for (int i = 0; i < 6; i++) { h.makes(1, 1, 0, i); if (i > 0) { h.sets(i, 0, i - 1); h.roots(i - 1, NONE); } }
    }, "down to 0", 6, h -> h.way(0), 5, 4, 3, 2, 1, 0);
    Sentences.asks(h -> {
      for (int i = 0; i < 6; i++) { h.makes(1, 1, 0, i); if (i > 0) { h.sets(i, 0, i - 1); h.roots(i - 1, NONE); } }
      h.sets(0, 0, 5); h.roots(2, 0); h.roots(5, NONE);
    }, "over 0", 3, h -> h.way(4), 0, 5, 4);
    // The longest one.
    CountedHeap c = Heaps.chain(24, 1);
    c.sets(23, 0, 0);
    due("way(23)", c.way(23), 24);
    for (int i = 0; i < 24; i++) due("row(" + i + ")", c.row(i), i);
  }

  @Sentences.Says(promise = 17, value = "-2: it is not REACHED")
  static void wayDead() {
    Sentences.refused(SOME, "way(0)", -2, h -> h.way(0));
    Sentences.refused(SOME, "way(1)", -2, h -> h.way(1));
  }

  @Sentences.Says(promise = 17, value = "NONE: no such OBJECT")
  static void wayNone() { Sentences.refusedOutside(SOME, "way", 0, 4, NONE, CountedHeap::way); }

  // ---- promise 18

  @Sentences.Says(promise = 18, value = "OBJECTS to which one comes from an OBJECT over FIELDS, it too (bits); the ROW: 1 if one comes back to it, else 0.")
  static void from() {
    Sentences.asks(SOME, "without FIELDS", 16, h -> h.from(4), 0);
    Sentences.asks(SOME, "FIELDS", 12, h -> h.from(2), 0);
    Sentences.asks(SOME, "a dead ring", 3, h -> h.from(0), 1);
    Sentences.asks(h -> { some(h); h.sets(3, 0, 3); }, "it comes to a ring, not back", 12, h -> h.from(2), 0);
    Sentences.asks(h -> { some(h); h.sets(3, 0, 3); }, "itself", 8, h -> h.from(3), 1);
    Sentences.asks(h -> { Heaps.chain(h, 24, 1); h.sets(23, 0, 0); }, "all", 0xffffff, h -> h.from(11), 1);
  }

  @Sentences.Says(promise = 18, value = "NONE: no such OBJECT")
  static void fromNone() { Sentences.refusedOutside(SOME, "from", 0, 4, NONE, CountedHeap::from); }

  // ---- promise 19

  @Sentences.Says(promise = 19, value = "RINGS: sets of OBJECTS, each of which one comes to from each other one of it (of one alone, if it has itself in a FIELD): how many; the ROW: of each its OBJECTS (bits), by the least of these.")
  static void rings() {
    Sentences.asks(h -> { }, "none", 0, CountedHeap::rings);
    Sentences.asks(h -> Heaps.chain(h, 24, 1), "no ring", 0, CountedHeap::rings);
    Sentences.asks(SOME, "a dead one", 1, CountedHeap::rings, 3);
    Sentences.asks(h -> { some(h); h.sets(3, 0, 3); }, "one alone", 2, CountedHeap::rings, 3, 8);
    Sentences.asks(h -> { Heaps.chain(h, 24, 1); h.sets(23, 0, 0); }, "all in one", 1, CountedHeap::rings, 0xffffff);
    // 0 > 3 > 0, 1 > 2 > 1, 0 > 1: by the least, not by the greatest.
    Sentences.asks(h -> {
      for (int i = 0; i < 4; i++) h.makes(2, 1, 0, i);
      h.sets(0, 0, 3); h.sets(3, 0, 0); h.sets(1, 0, 2); h.sets(2, 0, 1); h.sets(0, 1, 1);
    }, "two", 2, CountedHeap::rings, 9, 6);
    // One comes from the one ring to the other and back: one ring.
    Sentences.asks(h -> {
      for (int i = 0; i < 4; i++) h.makes(2, 1, 0, i);
      h.sets(0, 0, 3); h.sets(3, 0, 0); h.sets(1, 0, 2); h.sets(2, 0, 1); h.sets(0, 1, 1); h.sets(2, 1, 3);
    }, "one", 1, CountedHeap::rings, 15);
    // 24 of one each.
    CountedHeap c = Heaps.chain(24, 2);
    for (int i = 0; i < 24; i++) c.sets(i, 1, i);
    due("24", c.rings(), 24);
    for (int i = 0; i < 24; i++) due("row(" + i + ")", c.row(i), 1 << i);
  }

  // ---- promise 20

  @Sentences.Says(promise = 20, value = "OBJECTS that are REACHED and would not be without one (bits, it too); the ROW: their WEIGHTS together.")
  static void alone() {
    Sentences.asks(SOME, "two", 12, h -> h.alone(2), 9);
    Sentences.asks(SOME, "one", 8, h -> h.alone(3), 5);
    Sentences.asks(SOME, "one without FIELDS", 16, h -> h.alone(4), 9);
    Sentences.asks(h -> { some(h); h.roots(5, 3); }, "3 is kept by a ROOT", 4, h -> h.alone(2), 4);
    // Two ways to 3: neither of them is alone.
    Sentences.Setup ways = h -> { Heaps.chain(h, 4, 2); h.sets(0, 1, 2); h.sets(3, 0, 0); };
    Sentences.asks(ways, "alone(0)", 15, h -> h.alone(0), 10);
    Sentences.asks(ways, "alone(1)", 2, h -> h.alone(1), 2);
    Sentences.asks(ways, "alone(2)", 12, h -> h.alone(2), 7);
    // A dead one that it keeps is none of them.
    Sentences.asks(h -> {
      h.makes(2, 1, 0, 0); h.makes(1, 2, 0, 1); h.sets(0, 0, 0); h.sets(0, 1, 1); h.roots(0, NONE);
    }, "the dead one is not", 2, h -> h.alone(1), 2);
    Sentences.asks(h -> Heaps.chain(h, 24, 1), "all", 0xffffff, h -> h.alone(0), 2 * 45 + 21);
  }

  @Sentences.Says(promise = 20, value = "-2: it is not REACHED")
  static void aloneDead() { Sentences.refused(SOME, "alone(0)", -2, h -> h.alone(0)); }

  @Sentences.Says(promise = 20, value = "NONE: no such OBJECT")
  static void aloneNone() { Sentences.refusedOutside(SOME, "alone", 0, 4, NONE, CountedHeap::alone); }

  // ---- promise 21

  @Sentences.Says(promise = 21, value = "The fewest ROOTS to be emptied so that an OBJECT is not REACHED (bits; of as many the least as bits); the ROW: how many OBJECTS would be dead by that that are REACHED now.")
  static void keepers() {
    Sentences.asks(SOME, "two ROOTS have it", 17, h -> h.keepers(2), 2);
    Sentences.asks(SOME, "it hangs on it", 17, h -> h.keepers(3), 2);
    Sentences.asks(SOME, "one ROOT", 2, h -> h.keepers(4), 1);
    // All six, two of them by a way of two.
    Sentences.Setup six = h -> {
      h.makes(1, 1, 0, 0); h.makes(1, 1, 0, 5); h.sets(1, 0, 0); h.roots(1, 0); h.roots(2, 0); h.roots(3, 0); h.roots(4, 1);
    };
    Sentences.asks(six, "six", 63, h -> h.keepers(0), 2);
    Sentences.asks(six, "two", 48, h -> h.keepers(1), 1);
    // Those that are dead already do not count.
    Sentences.asks(h -> { some(h); h.roots(5, 4); }, "dead ones do not count", 34, h -> h.keepers(4), 1);
    Sentences.asks(h -> Heaps.chain(h, 24, 1), "24", 1, h -> h.keepers(23), 24);
  }

  @Sentences.Says(promise = 21, value = "-2: it is not REACHED")
  static void keepersDead() { Sentences.refused(SOME, "keepers(1)", -2, h -> h.keepers(1)); }

  @Sentences.Says(promise = 21, value = "NONE: no such OBJECT")
  static void keepersNone() { Sentences.refusedOutside(SOME, "keepers", 0, 4, NONE, CountedHeap::keepers); }

  // ---- promise 22

  @Sentences.Says(promise = 22, value = "OBJECTS that would go, were a FIELD emptied (bits; without a TRIAL; REACHED or not); the ROW: SUSPECTS then.")
  static void cut() {
    Sentences.asks(SOME, "one of two FIELDS", 0, h -> h.cut(2, 0), 3);
    Sentences.asks(SOME, "a dead ring: 0 comes back to ROOT 1, from where 4 goes", 16, h -> h.cut(1, 0), 2);
    Sentences.asks(h -> Heaps.deadRing(h, 0, 0), "a dead ring", 3, h -> h.cut(0, 0), 0);
    Sentences.asks(h -> Heaps.chain(h, 24, 1), "all behind it", 0xfffffe, h -> h.cut(0, 0), 0);
    Sentences.asks(h -> Heaps.chain(h, 24, 1), "the last one", 1 << 23, h -> h.cut(22, 0), 22);
    // Without a TRIAL, also if LIMIT is met: a ring stays.
    Sentences.Setup ring = h -> { Heaps.chain(h, 3, 2); h.sets(2, 1, 1); h.trial(); h.limit(1); };
    Sentences.asks(ring, "a ring stays", 0, h -> h.cut(0, 0), 1);
    // Who comes back does not go, who was in its ROOT does.
    Sentences.Setup back = h -> { h.makes(1, 1, 0, 0); h.makes(0, 1, 3, 2); h.sets(0, 0, 1); h.roots(2, NONE); h.makes(0, 1, 0, 1); };
    Sentences.asks(back, "who was in the ROOT", 4, h -> h.cut(0, 0), 0);
  }

  @Sentences.Says(promise = 22, value = "-2: it is empty")
  static void cutEmpty() {
    Sentences.refused(SOME, "cut(2, 1)", -2, h -> h.cut(2, 1));
    Sentences.refused(SOME, "cut(3, 0)", -2, h -> h.cut(3, 0));
  }

  @Sentences.Says(promise = 22, value = "NONE: no such OBJECT, FIELD")
  static void cutNone() {
    Sentences.refusedOutside(SOME, "OBJECT", 0, 3, NONE, (h, v) -> h.cut(v, 0));
    Sentences.refusedOutside(SOME, "FIELD of 2", 0, 2, NONE, (h, v) -> h.cut(2, v));
    Sentences.refusedOutside(SOME, "FIELD of 1", 0, 0, NONE, (h, v) -> h.cut(1, v));
    Sentences.refusedOutside(SOME, "FIELD of 4", 0, -1, NONE, (h, v) -> h.cut(4, v));
  }

  // ---- promise 23

  @Sentences.Says(promise = 23, value = "What trial() would do: OBJECTS that would go (bits); the ROW: ENDS that would run, VISITS, SUSPECTS then.")
  static void would() {
    Sentences.asks(h -> Heaps.deadRing(h, 0, 0), "a dead ring", 3, CountedHeap::would, 0, 4, 0);
    Sentences.asks(h -> Heaps.deadRing(h, 1, 0), "an END", 0, CountedHeap::would, 1, 4, 2);
    Sentences.asks(h -> Heaps.deadRing(h, 2, 2), "two ENDS", 0, CountedHeap::would, 2, 4, 2);
    // ENDS that ran ahead of it, and what went then, are not told.
    Sentences.asks(h -> { h.makes(0, 1, 1, 5); h.roots(5, NONE); Heaps.deadRing(h, 1, 0); h.trial(); }, "ENDS ahead", 3, CountedHeap::would, 0, 4, 0);
    Sentences.asks(h -> { h.makes(0, 1, 1, 5); h.roots(5, NONE); Heaps.deadRing(h, 1, 0); }, "ENDS ahead", 0, CountedHeap::would, 1, 4, 2);
    // 0 comes back to ROOT 3: 2 goes, and 3 with it, by an END of its own.
    Sentences.asks(h -> { Heaps.deadRing(h, 5, 0); h.makes(1, 1, 0, 3); h.makes(0, 1, 1, 4); h.sets(2, 0, 3); h.roots(4, NONE); },
        "those behind ENDS, too", 12, CountedHeap::would, 2, 4, 2);
    Sentences.asks(h -> Heaps.chain(h, 3, 1), "none", 0, CountedHeap::would, 0, 4, 0);
    Sentences.asks(h -> { Heaps.chain(h, 2, 1); h.roots(5, 1); }, "none is MEANT", 0, CountedHeap::would, 0, 0, 0);
    Sentences.asks(h -> { Heaps.chain(h, 24, 1); h.sets(23, 0, 0); h.trial(); h.roots(0, NONE); }, "all", 0xffffff, CountedHeap::would, 0, 48, 0);
    // LIMIT makes no second TRIAL of it.
    Sentences.asks(h -> { Heaps.deadRing(h, 1, 1); h.limit(1); }, "one TRIAL", 0, CountedHeap::would, 2, 4, 2);
  }

  @Sentences.Says(promise = 23, value = "-2: THE LIST is empty")
  static void wouldOfNone() {
    Sentences.refused(h -> { }, "would", -2, CountedHeap::would);
    Sentences.refused(h -> { Heaps.chain(h, 3, 1); h.trial(); h.way(2); }, "would", -2, CountedHeap::would);
  }

  // ---- promise 24

  @Sentences.Says(promise = 24, value = "How many TRIALS by hand, one behind another, till there are no SUSPECTS (at most 30): how many; the ROW: OBJECTS that are there then, dead ones of these.")
  static void settles() {
    Sentences.asks(h -> { }, "none", 0, CountedHeap::settles, 0, 0);
    Sentences.asks(h -> h.makes(1, 1, 0, 0), "no SUSPECTS", 0, CountedHeap::settles, 1, 0);
    Sentences.asks(h -> Heaps.chain(h, 3, 1), "one", 1, CountedHeap::settles, 3, 0);
    Sentences.asks(h -> { Heaps.chain(h, 2, 1); h.roots(5, 1); }, "none is MEANT", 1, CountedHeap::settles, 2, 0);
    Sentences.asks(h -> Heaps.deadRing(h, 0, 0), "one", 1, CountedHeap::settles, 0, 0);
    Sentences.asks(h -> Heaps.deadRing(h, 1, 0), "an END is told first", 2, CountedHeap::settles, 0, 0);
    Sentences.asks(h -> Heaps.deadRing(h, 2, 0), "it comes back", 2, CountedHeap::settles, 2, 0);
    // By hand: LIMIT makes no more of them.
    Sentences.asks(h -> { Heaps.deadRing(h, 1, 0); h.limit(1); }, "LIMIT", 2, CountedHeap::settles, 0, 0);
    Sentences.asks(QuestionsTest::eachDrivesTheNext, "each drives the next away", 8, CountedHeap::settles, 6, 0);
  }

  /** 0 is dead and comes back to ROOT 0; who was there comes back to ROOT 1, .., the last one to ROOT 0, where 0 goes for good. */
  private static void eachDrivesTheNext(CountedHeap h) {
    h.makes(1, 1, 2, 5); h.sets(0, 0, 0);
    for (int r = 0; r < 6; r++) { h.makes(1, 1, r < 5 ? r + 3 : 2, r); h.sets(r + 1, 0, r + 1); }
  }

  /** Each TRIAL that leaves SUSPECTS has run an END, and there are 24 at most: -2 can't come; this is as far as it goes here. */
  @Sentences.Says(promise = 24, value = "-2: not by then")
  static void settlesInTime() {
    CountedHeap h = Sentences.made(QuestionsTest::eachDrivesTheNext);
    due("settles", h.settles(), 8);
    for (int left = 7; left >= 0; left--) { h.trial(); due("settles", h.settles(), left); }
    due("trial", h.trial(), -2);
    for (int seed = 0; seed < 40; seed++) {
      CountedHeap g = fresh();
      for (int n = 0, r = seed; n < 60; n++) {
        r = r * 1103515245 + 12345;
        int a = r >>> 16;
        if (n % 3 == 0) g.makes(1 + a % 4, 1, a / 4 % 8, a / 32 % 6);
        else g.sets(a % 24, a / 24 % 4, a / 96 % 24);
      }
      for (int root = 0; root < 6; root++) g.roots(root, NONE);
      int many = g.settles();
      due("settles " + many + " in 0 .. 25", many >= 0 && many <= 25 ? 1 : 0, 1);
      for (int n = 0; n < many; n++) g.trial();
      due("count(1)", g.count(1), 0);
    }
  }

  // ---- promise 25

  @Sentences.Says(promise = 25, value = "what 0: the greatest COUNT first, 1: the greatest WEIGHT, 2: the greatest WEIGHTS of all that are alone() with it (0, if it is not REACHED); of equal ones the least number: how many; the ROW: they.")
  static void ranks() {
    Sentences.asks(SOME, "COUNT", 5, h -> h.ranks(0), 2, 3, 0, 1, 4);
    Sentences.asks(SOME, "WEIGHT", 5, h -> h.ranks(1), 4, 3, 2, 1, 0);
    Sentences.asks(SOME, "WEIGHTS alone", 5, h -> h.ranks(2), 2, 4, 3, 0, 1);
    for (int w = 0; w < 3; w++) { int what = w; Sentences.asks(h -> { }, "none", 0, h -> h.ranks(what)); }
    CountedHeap f = Heaps.chain(24, 1);
    due("24 of COUNT 1", f.ranks(0), 24);
    for (int i = 0; i < 24; i++) due("row(" + i + ")", f.row(i), i);
    due("24", f.ranks(2), 24);
    for (int i = 0; i < 24; i++) due("row(" + i + ")", f.row(i), i);
    due("24", f.ranks(1), 24);
    int[] byWeight = {8, 17, 7, 16, 6, 15, 5, 14, 23, 4, 13, 22, 3, 12, 21, 2, 11, 20, 1, 10, 19, 0, 9, 18};
    for (int i = 0; i < 24; i++) due("row(" + i + ")", f.row(i), byWeight[i]);
    // A dead one of the greatest WEIGHT has 0.
    Sentences.asks(h -> { h.makes(1, 9, 0, 0); h.sets(0, 0, 0); h.makes(0, 1, 0, 0); }, "dead", 2, h -> h.ranks(2), 1, 0);
  }

  @Sentences.Says(promise = 25, value = "NONE: another what")
  static void ranksNone() { Sentences.refusedOutside(SOME, "ranks", 0, 2, NONE, CountedHeap::ranks); }

  // ---- promise 26

  @Sentences.Says(promise = 26, value = "Row i of THE LOG, what 0: kind, 1: OBJECT.")
  static void log() {
    CountedHeap h = Heaps.deadRing(1, 3);
    h.trial();
    Sentences.log(h, 0, 0, 0, 0, 1, 3, 0, 3, 1, 4, 1);
  }

  /** n rows: makes() into ROOT 0 has one row at first, then two each time. */
  private static Sentences.Setup rows(int n) {
    return h -> {
      if (n > 0 && n % 2 == 0) h.makes(0, 1, 0, 5);
      for (int k = 0; k < (n + 1) / 2; k++) if (h.count(4) < n) h.makes(0, 1, 0, 0);
    };
  }

  @Sentences.Says(promise = 26, value = "NoSuchElementException: none such, it is not of the latest 60, another what")
  static void logNone() {
    for (int n : new int[] {0, 1, 2, 59, 60, 61, 62, 119, 120, 121, 122, 180, 181}) {
      CountedHeap h = Sentences.made(rows(n));
      due("rows", h.count(4), n);
      for (int i = 0; i < n; i++) {
        int row = i;
        if (i < n - 60) { Sentences.throwsNone("log(" + i + ", 0) of " + n, h, x -> x.log(row, 0)); continue; }
        int odd = n % 2 == 0 ? i - 1 : i;
        due("log(" + i + ", 0) of " + n, h.log(i, 0), odd > 0 && odd % 2 == 0 ? 1 : 0);
      }
      Sentences.noneOutside(rows(n), "log of " + n, n < 60 ? 0 : n - 60, n - 1, (x, v) -> x.log(v, 1));
      if (n > 0) Sentences.noneOutside(rows(n), "what", 0, 1, (x, v) -> x.log(n - 1, v));
    }
    // Undone rows are none; what was written over is of the latest 60 again.
    CountedHeap u = Sentences.made(rows(61));
    Sentences.throwsNone("log(0, 0)", u, x -> x.log(0, 0));
    u.undo();
    due("rows", u.count(4), 59);
    due("log(0, 0)", u.log(0, 0), 0);
    due("log(58, 0)", u.log(58, 0), 1);
    Sentences.throwsNone("log(59, 0)", u, x -> x.log(59, 0));
  }

  // ---- promise 27

  @Sentences.Says(promise = 27, value = "Rows of THE LOG of a kind (0 .. 5), all that ever were: how many; the ROW: of all kinds together.")
  static void logged() {
    for (int k = 0; k < 6; k++) { int kind = k; Sentences.asks(h -> { }, "logged(" + k + ")", 0, h -> h.logged(kind), 0); }
    CountedHeap h = Heaps.deadRing(3, 1);
    h.trial(); h.roots(1, NONE); h.trial();
    h.makes(0, 1, 0, 0); h.weaks(0, 0); h.weaks(3, 0); h.roots(0, NONE);
    int[] want = {3, 1, 2, 2, 1, 2};
    for (int kind = 0; kind < 6; kind++) { due("logged(" + kind + ")", h.logged(kind), want[kind]); row(h, 11); }
    // Also those that are not of the latest 60.
    CountedHeap g = Sentences.made(rows(181));
    due("logged(0)", g.logged(0), 91); row(g, 181);
    due("logged(1)", g.logged(1), 90); row(g, 181);
  }

  @Sentences.Says(promise = 27, value = "NONE: another kind")
  static void loggedNone() { Sentences.refusedOutside(SOME, "logged", 0, 5, NONE, CountedHeap::logged); }
}
