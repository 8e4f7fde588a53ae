/** Terms 1 and 2, sentence by sentence: what the promises speak of. */
public final class TermsTest {
  private static final int NONE = CountedHeap.NONE;

  public static void main(String[] args) throws Exception { Sentences.run(TermsTest.class, 0, 0); }

  private static void due(String call, long got, long want) { Sentences.due(call, got, want); }
  private static void row(CountedHeap h, long... want) { Sentences.row(h, want); }
  private static void list(CountedHeap h, long... want) { Sentences.list(h, want); }
  private static void log(CountedHeap h, int from, int... want) { Sentences.log(h, from, want); }
  private static CountedHeap fresh() { return new CountedHeap(); }

  // ---- how long, how many

  @Sentences.Says("An object is used for at most 512 calls after it has been made")
  static void fiveHundredAndTwelveCalls() {
    CountedHeap h = fresh();
    for (int n = 0; n < 506; n++) h.makes(0, 1, 0, 0);
    due("508th call", h.count(4), 1011);
    due("509th call", h.log(1010, 0), 1);
    due("510th call", h.log(951, 1), 0);
    due("511th call", h.undo(), 7);
    due("512th call", h.count(4), 1009);
  }

  @Sentences.Says("OBJECTS have numbers 0 .. 23")
  static void numbers() {
    CountedHeap h = Heaps.full();
    due("all(0)", h.all(0), 0xffffff);
    due("object(23, 1)", h.object(23, 1), 4);
    due("sets", h.sets(23, 3, 23), 0);
    due("field(23, 3)", h.field(23, 3), 23);
  }

  @Sentences.Says("a new one the least number that none has")
  static void leastNumber() {
    CountedHeap h = fresh();
    for (int i = 0; i < 6; i++) due("makes", h.makes(0, 1, 0, i), i);
    h.roots(4, NONE); h.roots(1, NONE); h.roots(0, NONE);
    due("makes", h.makes(0, 1, 0, 0), 0);
    due("makes", h.makes(0, 1, 0, 1), 1);
    due("makes", h.makes(0, 1, 0, 4), 4);
    // What goes by it had a number yet as it was made.
    due("makes", h.makes(0, 1, 0, 0), 6);
    due("makes", h.makes(0, 1, 0, 1), 0);
    // The greatest number comes again, too.
    CountedHeap f = Heaps.full();
    f.sets(5, 2, NONE);
    due("all(0)", f.all(0), 0x7fffff);
    due("makes", f.makes(0, 1, 0, 5), 23);
    // A number that comes again has nothing of the one ahead: its END has not run, it is on no LIST.
    CountedHeap a = fresh();
    a.makes(2, 9, 2, 1); a.roots(2, 0); a.roots(2, NONE); a.roots(1, NONE); a.roots(0, NONE);
    due("makes", a.makes(3, 1, 4, 5), 0);
    int[] want = {1, 3, 1, 4, 0, 0, 1};
    for (int what = 0; what < 7; what++) due("object(0, " + what + ")", a.object(0, what), want[what]);
    due("its END runs", a.roots(5, NONE), 2);
  }

  @Sentences.Says("each FIELDS 0 .. n - 1 (n 0 .. 4), in each an OBJECT or none")
  static void fields() {
    for (int n = 0; n <= 4; n++) {
      CountedHeap h = fresh();
      due("makes", h.makes(n, 1, 0, 0), 0);
      due("object(0, 1)", h.object(0, 1), n);
      for (int k = 0; k < 4; k++) due("sets(0, " + k + ", 0)", h.sets(0, k, 0), k < n ? 0 : NONE);
      due("object(0, 0)", h.object(0, 0), 1 + n);
    }
  }

  @Sentences.Says("a WEIGHT 1 .. 9")
  static void weights() {
    CountedHeap h = fresh();
    for (int w = 1; w <= 9; w++) { due("makes", h.makes(0, w, 0, 0) >= 0 ? 1 : 0, 1); h.all(0); row(h, w); }
  }

  @Sentences.Says("an END: 0 none, 1 one that is told, 2 .. 7 one by which it comes back to ROOT 0 .. 5")
  static void ends() {
    CountedHeap n = fresh();
    n.makes(0, 1, 0, 5);
    due("none", n.roots(5, NONE), 1); log(n, 1, 1, 0);
    CountedHeap t = fresh();
    t.makes(0, 1, 1, 5);
    due("told", t.roots(5, NONE), 2); log(t, 1, 3, 0, 1, 0);
    for (int end = 2; end <= 7; end++) {
      for (int from = 0; from < 6; from++) {
        CountedHeap h = fresh();
        h.makes(0, 1, end, from);
        due("END " + end, h.roots(from, NONE), 2); log(h, 1, 3, 0, 4, 0);
        for (int r = 0; r < 6; r++) due("root(" + r + ")", h.root(r), r == end - 2 ? 0 : NONE);
        due("object(0, 0)", h.object(0, 0), 1);
      }
    }
  }

  @Sentences.Says("an END runs once at most")
  static void endsRunOnce() {
    for (int end = 1; end <= 7; end++) {
      // As COUNT was 0.
      CountedHeap h = fresh();
      h.makes(0, 1, end, 0);
      h.roots(0, NONE);
      if (end > 1) {
        due("object(0, 4)", h.object(0, 4), 1);
        due("the second time", h.roots(end - 2, NONE), 1);
      }
      due("count(0)", h.count(0), 0);
      due("logged(3)", h.logged(3), 1);
      // By a TRIAL, then as COUNT was 0: 0 alone has itself in a FIELD.
      CountedHeap t = fresh();
      t.makes(1, 1, end, 0); t.sets(0, 0, 0); t.weaks(0, 0); t.roots(0, NONE);
      due("trial", t.trial(), 0); row(t, 1, 2);
      if (t.object(0, 6) == 0) t.wakes(0, 3);
      t.sets(0, 0, NONE);
      for (int r = 0; r < 6; r++) if (t.root(r) == 0) t.roots(r, NONE);
      due("count(0)", t.count(0), 0);
      due("logged(3)", t.logged(3), 1);
    }
  }

  @Sentences.Says("ROOTS 0 .. 5, WEAK ones 0 .. 3: in each an OBJECT or none")
  static void rootsAndWeakOnes() {
    CountedHeap h = fresh();
    h.makes(0, 1, 0, 0);
    for (int r = 1; r < 6; r++) due("roots(" + r + ", 0)", h.roots(r, 0), 0);
    for (int w = 0; w < 4; w++) due("weaks(" + w + ", 0)", h.weaks(w, 0), NONE);
    for (int what = 0; what < 10; what++) due("root(" + what + ")", h.root(what), 0);
    for (int r = 0; r < 6; r++) h.roots(r, NONE);
    for (int what = 0; what < 10; what++) due("root(" + what + ")", h.root(what), NONE);
  }

  @Sentences.Says("COUNT of an OBJECT: how many FIELDS (of all OBJECTS) and ROOTS have it")
  static void counts() {
    CountedHeap h = fresh();
    h.makes(4, 1, 0, 0); h.makes(1, 1, 0, 1);
    h.sets(0, 0, 1); h.sets(0, 3, 1); h.sets(1, 0, 1); h.roots(5, 1); h.weaks(0, 1); h.weaks(1, 1);
    due("FIELDS twice, its own, ROOTS twice", h.object(1, 0), 5);
    // A dead one's FIELD counts, too.
    CountedHeap d = fresh();
    d.makes(2, 1, 0, 0); d.makes(0, 1, 0, 1); d.sets(0, 0, 0); d.sets(0, 1, 1); d.roots(0, NONE);
    due("all(2)", d.all(2), 1);
    due("object(1, 0)", d.object(1, 0), 2);
    d.roots(1, NONE);
    due("object(1, 0)", d.object(1, 0), 1);
    due("object(1, 6)", d.object(1, 6), 0);
  }

  @Sentences.Says("REACHED: OBJECTS to which one comes from ROOTS over FIELDS")
  static void reached() {
    CountedHeap h = Heaps.chain(24, 1);
    due("all(1)", h.all(1), 0xffffff);
    // A WEAK one does not reach, nor does a dead one.
    CountedHeap d = fresh();
    d.makes(2, 1, 0, 5); d.makes(0, 1, 0, 1); d.sets(0, 0, 0); d.sets(0, 1, 1); d.weaks(0, 0); d.weaks(1, 1);
    due("all(1)", d.all(1), 3);
    d.roots(5, NONE); d.roots(1, NONE);
    due("all(1)", d.all(1), 0);
  }

  // ---- the list, counting

  @Sentences.Says("SUSPECTS, one behind another (at most once each)")
  static void onTheListOnce() {
    CountedHeap h = fresh();
    h.makes(1, 1, 0, 0); h.roots(1, 0); h.roots(2, 0); h.roots(3, 0);
    h.roots(1, NONE); list(h, 0);
    h.roots(2, NONE); list(h, 0);
    h.roots(3, NONE); list(h, 0);
    due("count(1)", h.count(1), 1);
    // All 24 are on it behind a TRIAL in which ENDS ran.
    CountedHeap f = fresh();
    for (int i = 0; i < 24; i++) { f.makes(1, 1, 1, i == 0 ? 0 : 1); if (i > 0) f.sets(i - 1, 0, i); }
    f.sets(23, 0, 0); f.roots(1, NONE); f.trial(); f.roots(0, NONE);
    due("trial", f.trial(), 0); row(f, 24, 48);
    list(f, 0, 1, 2, 3, 4, 5, 6, 7, 8, 9, 10, 11, 12, 13, 14, 15, 16, 17, 18, 19, 20, 21, 22, 23);
    due("trial", f.trial(), 24); row(f, 0, 48);
  }

  @Sentences.Says("LIMIT 1 .. 24 (24)")
  static void limits() {
    CountedHeap h = fresh();
    due("count(2)", h.count(2), 24);
    due("limit(1)", h.limit(1), 24);
    due("limit(24)", h.limit(24), 1);
  }

  @Sentences.Says("it is laid; the new one is COUNTED UP, and is no SUSPECT that is MEANT any more")
  static void countedUpIsNotMeant() {
    CountedHeap h = fresh();
    h.makes(2, 1, 0, 0); h.makes(1, 1, 0, 1); h.roots(2, 1); h.roots(2, NONE); h.weaks(0, 1);
    due("MEANT", h.object(1, 5), 1);
    h.sets(0, 0, 1);
    due("by a FIELD", h.object(1, 5), 2); list(h, 1);
    h.sets(0, 0, NONE);
    due("MEANT again", h.object(1, 5), 1); list(h, 1);
    h.roots(4, 1);
    due("by a ROOT", h.object(1, 5), 2); list(h, 1);
    h.roots(4, NONE);
    h.wakes(0, 5);
    due("by a WEAK one", h.object(1, 5), 2); list(h, 1);
    // One that is not on THE LIST does not come to it.
    CountedHeap g = fresh();
    g.makes(2, 1, 0, 0); g.sets(0, 0, 0);
    due("object(0, 5)", g.object(0, 5), 0); list(g);
  }

  @Sentences.Says("then the old one is COUNTED DOWN")
  static void upAheadOfDown() {
    // The new one hangs on the old one alone.
    CountedHeap h = Heaps.chain(3, 1);
    due("sets(0, 0, 2)", h.sets(0, 0, 2), 1);
    due("all(0)", h.all(0), 5);
    CountedHeap r = Heaps.chain(2, 1);
    due("roots(0, 1)", r.roots(0, 1), 1);
    due("all(0)", r.all(0), 2);
    due("object(1, 0)", r.object(1, 0), 1);
    // It was COUNTED UP, so not MEANT; then the old one goes, and it is COUNTED DOWN: MEANT.
    due("object(1, 5)", r.object(1, 5), 1);
  }

  @Sentences.Says("COUNTED DOWN, and COUNT 0 then: it goes off THE LIST")
  static void offTheList() {
    CountedHeap h = fresh();
    h.makes(1, 1, 0, 0); h.makes(1, 1, 2, 1); h.makes(1, 1, 0, 2);
    for (int i = 0; i < 3; i++) { h.roots(5, i); h.roots(5, NONE); }
    list(h, 0, 1, 2);
    h.roots(0, NONE);
    list(h, 1, 2);
    due("the others are MEANT yet", h.object(1, 5), 1);
    // It comes back: it is an OBJECT, but on THE LIST no more.
    h.roots(1, NONE);
    due("root(0)", h.root(0), 1);
    list(h, 2);
    due("object(1, 5)", h.object(1, 5), 0);
  }

  @Sentences.Says("if it comes back, it is laid into that ROOT as a REFERENCE (rows 3, 4 of THE LOG are ahead of all that comes of that)")
  static void comesBackAsReference() {
    // 1 comes back to ROOT 0; 0, which was there, goes with 2 that hangs on it.
    CountedHeap h = fresh();
    h.makes(1, 1, 0, 0); h.makes(0, 1, 2, 1); h.makes(0, 1, 1, 2); h.sets(0, 0, 2); h.roots(2, NONE);
    due("roots(1, NONE)", h.roots(1, NONE), 5);
    log(h, 3, 3, 1, 4, 1, 1, 0, 3, 2, 1, 2);
    // Two that come back to one ROOT: the second drives the first away, whose END has run.
    CountedHeap g = fresh();
    g.makes(0, 1, 2, 0); g.makes(0, 1, 2, 1);
    due("roots(1, NONE)", g.roots(1, NONE), 5);
    log(g, 2, 3, 1, 4, 1, 3, 0, 4, 0, 1, 1);
    due("root(0)", g.root(0), 0);
    // Who was there and is kept otherwise is a SUSPECT.
    CountedHeap s = fresh();
    s.makes(1, 1, 0, 0); s.roots(3, 0); s.makes(0, 1, 2, 1);
    due("roots(1, NONE)", s.roots(1, NONE), 2);
    list(s, 0);
    due("object(0, 5)", s.object(0, 5), 1);
  }

  @Sentences.Says("if it did not come back, or had none to run, it is FREED")
  static void freed() {
    for (int end = 0; end < 8; end++) {
      CountedHeap h = fresh();
      h.makes(0, 1, end, 0); h.roots(0, NONE);
      due("END " + end, h.count(0), end < 2 ? 0 : 1);
      due("logged(1)", h.logged(1), end < 2 ? 1 : 0);
    }
  }

  @Sentences.Says({"of its FIELDS, by numbers, each that has an OBJECT is laid empty, and that OBJECT COUNTED DOWN (with all that comes of it)",
      "its row of THE LOG is ahead of all that comes of its FIELDS, those of WEAK ones are behind that"})
  static void fieldsOfOneThatGoes() {
    CountedHeap h = fresh();
    h.makes(1, 1, 0, 0);
    h.makes(4, 1, 0, 1); h.sets(0, 0, 1);
    h.makes(1, 1, 0, 1); h.sets(1, 3, 2);
    h.makes(0, 1, 1, 1); h.sets(2, 0, 3);
    h.makes(0, 1, 0, 1); h.sets(1, 1, 4);
    h.makes(1, 1, 0, 1); h.sets(1, 0, 5); h.roots(2, 5);
    h.roots(1, NONE);
    h.weaks(3, 1); h.weaks(1, 1); h.weaks(0, 3); h.trial();
    int rows = h.count(4);
    due("sets(0, 0, NONE)", h.sets(0, 0, NONE), 8);
    log(h, rows, 1, 1, 1, 4, 1, 2, 3, 3, 1, 3, 5, 3, 5, 1, 5, 1);
    due("all(0)", h.all(0), 33);
    // 5 was COUNTED DOWN and is there yet.
    list(h, 5);
    due("object(5, 0)", h.object(5, 0), 1);
    // One in two of its FIELDS: COUNTED DOWN twice.
    CountedHeap t = fresh();
    t.makes(2, 1, 0, 0); t.makes(2, 1, 0, 1); t.sets(0, 0, 1); t.sets(0, 1, 1); t.roots(1, NONE);
    due("roots(0, NONE)", t.roots(0, NONE), 2);
    log(t, 2, 1, 0, 1, 1);
    due("count(1)", t.count(1), 0);
    // All 24, one on another.
    CountedHeap c = Heaps.chain(24, 1);
    due("roots(0, NONE)", c.roots(0, NONE), 24);
    row(c, 0, 0);
    for (int i = 0; i < 24; i++) due("log", c.log(24 + i, 1), i);
    CountedHeap f = Heaps.full();
    due("roots(0, NONE)", f.roots(0, NONE), 24);
    row(f, 0, 0);
    int[] order = {0, 1, 5, 21, 22, 23, 6, 7, 8, 2, 9, 10, 11, 12, 3, 13, 14, 15, 16, 4, 17, 18, 19, 20};
    for (int i = 0; i < 24; i++) due("log", f.log(24 + i, 1), order[i]);
  }

  @Sentences.Says("WEAK ones that have it are cleared, it is no OBJECT any more")
  static void weakOnesAreCleared() {
    CountedHeap h = fresh();
    h.makes(0, 1, 0, 0); h.makes(0, 1, 0, 1);
    h.weaks(0, 0); h.weaks(1, 1); h.weaks(2, 0); h.weaks(3, 0);
    due("roots(0, NONE)", h.roots(0, NONE), 4);
    log(h, 2, 1, 0, 5, 0, 5, 0, 5, 0);
    int[] want = {NONE, 1, NONE, NONE};
    for (int w = 0; w < 4; w++) due("root(" + (6 + w) + ")", h.root(6 + w), want[w]);
    Sentences.throwsNone("object(0, 0)", h, x -> x.object(0, 0));
    // One that comes back keeps its WEAK ones.
    CountedHeap b = fresh();
    b.makes(0, 1, 5, 0); b.weaks(2, 0); b.roots(0, NONE);
    due("root(8)", b.root(8), 0);
    due("logged(5)", b.logged(5), 0);
    // The WEAK one has nothing of an OBJECT that gets its number later.
    h.makes(0, 1, 0, 0);
    due("root(6)", h.root(6), NONE);
  }

  @Sentences.Says("COUNTED DOWN, and COUNT above 0: if it has FIELDS, it is a SUSPECT that is MEANT: it comes to the end of THE LIST, if it is not on it")
  static void suspects() {
    CountedHeap h = fresh();
    for (int i = 0; i < 3; i++) h.makes(i, 1, 0, i);
    for (int i = 2; i >= 0; i--) { h.roots(5, i); h.roots(5, NONE); }
    due("no FIELDS", h.object(0, 5), 0);
    list(h, 2, 1);
    h.roots(5, 2);
    due("not MEANT", h.object(2, 5), 2);
    h.roots(5, NONE);
    due("MEANT", h.object(2, 5), 1);
    list(h, 2, 1);
  }

  // ---- a trial

  @Sentences.Says("(1) of SUSPECTS, in order: one that is not MEANT goes off THE LIST")
  static void notMeant() {
    CountedHeap h = fresh();
    h.makes(1, 1, 0, 0); h.sets(0, 0, 0); h.weaks(0, 0); h.roots(0, NONE); h.wakes(0, 1);
    due("object(0, 5)", h.object(0, 5), 2);
    due("trial", h.trial(), 0); row(h, 0, 0);
    list(h);
    // It goes on with those that are MEANT.
    CountedHeap g = fresh();
    g.makes(1, 1, 0, 0); g.makes(1, 1, 0, 1); g.roots(2, 0); g.roots(3, 1); g.roots(2, NONE); g.roots(3, NONE); g.roots(2, 0);
    list(g, 0, 1);
    due("trial", g.trial(), 0); row(g, 0, 2);
    list(g);
    // 0 is not MEANT; 1, behind it, is a dead ring.
    CountedHeap d = fresh();
    d.makes(1, 1, 0, 0); d.makes(1, 1, 0, 1); d.sets(1, 0, 1); d.roots(2, 0); d.roots(2, NONE); d.roots(1, NONE); d.roots(2, 0);
    list(d, 0, 1);
    due("trial", d.trial(), 1); row(d, 0, 2);
    due("all(0)", d.all(0), 1);
  }

  @Sentences.Says("GRAY: if it is not GRAY, it is, and of each of its FIELDS, by numbers, the OBJECT's COUNT is one less, and it is gone on with likewise")
  static void gray() {
    // Once GRAY, though both are SUSPECTS and 1 is in two FIELDS; COUNTS are one less for each FIELD.
    CountedHeap h = fresh();
    h.makes(3, 1, 0, 0); h.makes(2, 1, 0, 1);
    h.sets(0, 0, 1); h.sets(0, 2, 1); h.sets(1, 1, 0); h.sets(1, 0, 1);
    h.roots(0, NONE); h.roots(1, NONE);
    list(h, 0, 1);
    due("trial", h.trial(), 2); row(h, 0, 4);
    // All 24 by one SUSPECT.
    CountedHeap c = Heaps.chain(24, 1);
    c.sets(23, 0, 0); c.trial(); c.roots(0, NONE);
    list(c, 0);
    due("trial", c.trial(), 24); row(c, 0, 48);
  }

  @Sentences.Says({"if its COUNT is above 0, it is GIVEN BACK: it is BLACK, of each FIELD the OBJECT's COUNT is one more",
      "and if that is not BLACK, it is GIVEN BACK likewise; else it is WHITE, and OBJECTS of its FIELDS are LOOKED THROUGH"})
  static void lookedThrough() {
    // A ROOT has the SUSPECT: BLACK at once.
    CountedHeap k = fresh();
    k.makes(1, 1, 0, 0); k.makes(1, 1, 0, 1); k.sets(0, 0, 1); k.sets(1, 0, 0); k.roots(1, NONE); k.roots(1, 0); k.roots(1, NONE);
    list(k, 1, 0);
    // 1 is looked through first: WHITE, then 0 is BLACK and 1 with it, 5 VISITS.
    due("trial", k.trial(), 0); row(k, 0, 5);
    due("object(0, 0)", k.object(0, 0), 2);
    due("object(1, 0)", k.object(1, 0), 1);
    CountedHeap b = fresh();
    b.makes(1, 1, 0, 0); b.makes(1, 1, 0, 1); b.sets(0, 0, 1); b.sets(1, 0, 0); b.roots(2, 0); b.roots(2, NONE); b.roots(1, NONE);
    list(b, 0, 1);
    due("trial", b.trial(), 0); row(b, 0, 4);
    due("object(0, 0)", b.object(0, 0), 2);
    due("object(1, 0)", b.object(1, 0), 1);
  }

  /** One is WHITE, its first FIELD's OBJECT is looked through with all behind it ahead of the second FIELD's. */
  @Sentences.Says("OBJECTS of its FIELDS are LOOKED THROUGH")
  static void lookedThroughByFields() {
    // 0 has 1 and 2, 1 has 3, 2 is kept by ROOT 1 and has 3, too.
    CountedHeap h = fresh();
    h.makes(3, 1, 0, 0); h.makes(1, 1, 0, 1); h.makes(1, 1, 0, 2); h.makes(1, 1, 0, 3);
    h.sets(0, 0, 1); h.sets(0, 1, 2); h.sets(0, 2, 0); h.sets(1, 0, 3); h.sets(2, 0, 3);
    h.roots(3, NONE); h.roots(1, 2); h.roots(2, NONE); h.trial(); h.roots(0, NONE);
    list(h, 0);
    // GRAY 0, 1, 2, 3; WHITE 0, 1, 3; BLACK 2, 3: 9. If 2 came ahead of 3, it would be 8.
    due("trial", h.trial(), 2); row(h, 0, 9);
    due("object(3, 0)", h.object(3, 0), 1);
  }

  @Sentences.Says("(3) All SUSPECTS go off THE LIST")
  static void listIsEmptied() {
    CountedHeap h = Heaps.chain(5, 1);
    due("count(1)", h.count(1), 4);
    due("trial", h.trial(), 0);
    list(h);
    for (int i = 0; i < 5; i++) due("object(" + i + ", 5)", h.object(i, 5), 0);
  }

  @Sentences.Says("If no WHITE one has an END that has not run: all WHITE ones are FREED, by numbers")
  static void whiteOnesAreFreed() {
    // THE LIST has 1 first.
    CountedHeap h = fresh();
    h.makes(1, 1, 0, 0); h.makes(1, 1, 0, 1); h.sets(0, 0, 1); h.sets(1, 0, 0); h.weaks(3, 1); h.weaks(0, 0);
    h.roots(1, NONE); h.roots(0, NONE);
    list(h, 1, 0);
    due("trial", h.trial(), 2);
    log(h, 2, 2, 0, 5, 0, 2, 1, 5, 1);
    // ENDS that have run do not hinder it.
    CountedHeap e = Heaps.deadRing(1, 0);
    due("trial", e.trial(), 0); row(e, 1, 4);
    due("trial", e.trial(), 2); row(e, 0, 4);
    log(e, 2, 3, 0, 2, 0, 2, 1);
    // An END of one that is not WHITE does not, either.
    CountedHeap o = fresh();
    o.makes(2, 1, 0, 0); o.makes(1, 1, 1, 1); o.sets(0, 0, 0); o.sets(0, 1, 1); o.roots(0, NONE);
    due("trial", o.trial(), 1); row(o, 0, 4);
    due("object(1, 4)", o.object(1, 4), 0);
    // An END of a WHITE one that is no SUSPECT does: it hangs on the ring.
    CountedHeap w = fresh();
    w.makes(2, 1, 0, 0); w.makes(0, 1, 1, 1); w.sets(0, 0, 0); w.sets(0, 1, 1); w.roots(1, NONE); w.roots(0, NONE);
    due("trial", w.trial(), 0); row(w, 1, 4);
    log(w, 2, 3, 1);
  }

  @Sentences.Says("(their FIELDS are not COUNTED DOWN any more, that has been done; WEAK ones are cleared)")
  static void fieldsOfWhiteOnes() {
    CountedHeap h = fresh();
    h.makes(3, 1, 0, 0); h.makes(1, 1, 0, 1); h.sets(0, 0, 0); h.sets(0, 1, 1); h.sets(0, 2, 1); h.weaks(1, 0); h.weaks(2, 0);
    h.roots(0, NONE);
    due("object(1, 0)", h.object(1, 0), 3);
    due("trial", h.trial(), 1);
    log(h, 2, 2, 0, 5, 0, 5, 0);
    due("object(1, 0)", h.object(1, 0), 1);
    due("no SUSPECT by that", h.object(1, 5), 0);
    due("root(7)", h.root(7), NONE);
    due("root(8)", h.root(8), NONE);
    due("count(3)", h.count(3), 1);
    due("holders(1)", h.holders(1), 0); row(h, 2, 0);
    // The number comes again with FIELDS that are empty.
    due("makes", h.makes(3, 1, 0, 0), 0);
    for (int k = 0; k < 3; k++) due("field(0, " + k + ")", h.field(0, k), NONE);
    due("object(0, 0)", h.object(0, 0), 1);
  }

  @Sentences.Says("Else COUNTS are as ahead of the TRIAL; of WHITE ones, by numbers, those ENDS run (one that comes back is laid into its ROOT as a REFERENCE)")
  static void endsOfWhiteOnes() {
    CountedHeap h = fresh();
    h.makes(2, 1, 1, 0); h.makes(1, 1, 1, 1); h.makes(0, 1, 1, 2); h.sets(0, 0, 1); h.sets(1, 0, 0); h.sets(0, 1, 2);
    h.roots(2, NONE); h.roots(1, NONE); h.roots(0, NONE);
    list(h, 1, 0);
    due("trial", h.trial(), 0); row(h, 3, 6);
    log(h, 3, 3, 0, 3, 1, 3, 2);
    for (int i = 0; i < 3; i++) { due("object(" + i + ", 0)", h.object(i, 0), 1); due("object(" + i + ", 4)", h.object(i, 4), 1); }
    // Back to ROOT 3, where one without FIELDS was: that goes.
    CountedHeap b = Heaps.deadRing(5, 0);
    b.makes(0, 1, 1, 3);
    due("trial", b.trial(), 1); row(b, 2, 4);
    log(b, 3, 3, 0, 4, 0, 3, 2, 1, 2);
    due("root(3)", b.root(3), 0);
    due("object(0, 0)", b.object(0, 0), 2);
    due("object(1, 0)", b.object(1, 0), 1);
    due("all(1)", b.all(1), 3);
  }

  @Sentences.Says("then all that were WHITE, and are OBJECTS yet, by numbers, are SUSPECTS that are MEANT, unless they have no FIELDS or are on THE LIST")
  static void suspectsBehindEnds() {
    // 1 and 2 come back to ROOT 0, 1 is driven away and on THE LIST ahead of 0; 3 has no FIELDS.
    CountedHeap h = fresh();
    h.makes(2, 1, 0, 0); h.makes(1, 1, 2, 1); h.makes(1, 1, 2, 2); h.makes(0, 1, 1, 3);
    h.sets(0, 0, 1); h.sets(1, 0, 2); h.sets(2, 0, 0); h.sets(0, 1, 3);
    for (int r = 3; r >= 0; r--) h.roots(r, NONE);
    list(h, 2, 1, 0);
    due("trial", h.trial(), 0); row(h, 3, 8);
    log(h, 4, 3, 1, 4, 1, 3, 2, 4, 2, 3, 3);
    list(h, 1, 0, 2);
    for (int i = 0; i < 3; i++) due("object(" + i + ", 5)", h.object(i, 5), 1);
    due("object(3, 5)", h.object(3, 5), 0);
  }

  @Sentences.Says("(None is GRAY, WHITE, BLACK behind that.)")
  static void noColourStays() {
    // Two that were WHITE in the TRIAL ahead, and are not MEANT any more, are not FREED by the next one.
    CountedHeap w = fresh();
    w.makes(1, 1, 1, 0); w.makes(1, 1, 1, 1); w.sets(0, 0, 1); w.sets(1, 0, 0); w.weaks(0, 0); w.weaks(1, 1);
    w.roots(0, NONE); w.roots(1, NONE);
    due("trial", w.trial(), 0); row(w, 2, 4);
    w.wakes(0, 5); w.wakes(1, 4);
    due("trial", w.trial(), 0); row(w, 0, 0);
    due("all(1)", w.all(1), 3);
  }

  @Sentences.Says("VISITS: how often an OBJECT was made GRAY, WHITE, BLACK")
  static void visits() {
    // GRAY 2, WHITE 2; GRAY 1, BLACK 1; WHITE ahead of BLACK: 3 of one.
    CountedHeap h = Heaps.deadRing(0, 0);
    h.trial(); row(h, 0, 4);
    CountedHeap b = fresh();
    b.makes(1, 1, 0, 0); b.roots(1, 0); b.roots(1, NONE);
    b.trial(); row(b, 0, 2);
    CountedHeap w = fresh();
    w.makes(1, 1, 0, 0); w.makes(1, 1, 0, 1); w.sets(1, 0, 0); w.roots(0, NONE); w.roots(2, 1); w.roots(2, NONE);
    list(w, 0, 1);
    w.trial(); row(w, 0, 5);
    // Those of the TRIAL ahead are not told again.
    CountedHeap e = Heaps.deadRing(1, 0);
    e.trial(); row(e, 1, 4);
    e.trial(); row(e, 0, 4);
  }

  // ---- acts

  @Sentences.Says("Behind each ACT but that, if THE LIST has LIMIT SUSPECTS or more, there is a TRIAL (one)")
  static void trialBehindActs() {
    Sentences.Call[] acts = {h -> h.makes(0, 1, 0, 5), h -> h.sets(2, 0, 2), h -> h.roots(5, 2), h -> h.wakes(0, 5)};
    for (Sentences.Call act : acts) {
      for (int limit = 1; limit <= 3; limit++) {
        CountedHeap h = Heaps.deadRing(0, 0);
        h.makes(1, 1, 0, 2); h.weaks(0, 2); h.limit(limit);
        act.on(h);
        due("SUSPECTS at LIMIT " + limit, h.count(1), limit <= 2 ? 0 : 2);
        due("logged(2)", h.logged(2), limit <= 2 ? 2 : 0);
      }
    }
    // One alone: ENDS leave as many SUSPECTS as LIMIT.
    CountedHeap e = Heaps.deadRing(1, 1);
    e.limit(1);
    e.makes(0, 1, 0, 0);
    row(e, 3);
    due("count(1)", e.count(1), 2);
    // The next ACT has the next TRIAL.
    e.roots(1, 2);
    due("count(0)", e.count(0), 1);
  }

  @Sentences.Says("An ACT: whatever changes FIELDS, ROOTS by hand, makes an OBJECT, a TRIAL by hand. Behind each ACT but that")
  static void noTrialBehindOthers() {
    // A TRIAL by hand has none behind it; weaks(), limit(), undo(), questions and refused calls neither.
    CountedHeap e = Heaps.deadRing(1, 1);
    e.limit(1);
    due("trial", e.trial(), 0);
    due("count(1)", e.count(1), 2);
    CountedHeap h = Heaps.deadRing(0, 0);
    h.makes(1, 1, 0, 0);
    h.limit(2);
    h.weaks(0, 2); h.weaks(0, NONE); h.limit(1); h.keep(0); h.again(0); h.list(); h.roots(0, 2); h.makes(5, 1, 0, 0); h.sets(0, 0, 2);
    h.wakes(0, 0); h.years(1, 1); h.sign(7); h.end(0); h.day(); h.would(); h.settles();
    due("count(1)", h.count(1), 2);
    h.limit(3); h.undo();
    due("count(1)", h.count(1), 2);
  }

  @Sentences.Says("THE LOG, numbered 0, 1, ..: kind 0 made, 1 FREED as COUNT was 0, 2 FREED by a TRIAL, 3 an END ran, 4 it came back, 5 a WEAK one of it was cleared; OBJECT")
  static void logKinds() {
    CountedHeap h = Heaps.deadRing(0, 0);
    h.trial();
    h.makes(0, 1, 3, 5); h.weaks(0, 0);
    h.roots(5, NONE); h.roots(1, NONE);
    log(h, 0, 0, 0, 0, 1, 2, 0, 2, 1, 0, 0, 3, 0, 4, 0, 1, 0, 5, 0);
    // By hand a WEAK one is not cleared so.
    h.makes(0, 1, 0, 0); h.weaks(0, 0); h.weaks(0, NONE);
    due("logged(5)", h.logged(5), 1);
  }

  // ---- 2. ROW

  @Sentences.Says("ROW: numbers told last by a call that says so")
  static void rowStays() {
    CountedHeap h = Heaps.chain(3, 2);
    h.way(2); row(h, 0, 1, 2);
    h.weaks(0, 1); h.limit(5); h.object(0, 0); h.field(0, 0); h.root(0); h.log(0, 0); h.sign(1); h.end(0); h.keep(0); h.undo(); h.again(0); h.count(3);
    row(h, 0, 1, 2);
    h.list(); row(h, 1, 2);
  }

  @Sentences.Says("Questions change nothing")
  static void questions() {
    Sentences.Setup setup = h -> {
      Heaps.deadRing(h, 3, 1);
      h.makes(2, 4, 2, 0); h.makes(1, 5, 0, 2); h.sets(2, 0, 3); h.sets(3, 0, 2); h.sets(2, 1, 2);
      h.weaks(1, 3); h.limit(7); h.roots(2, NONE); h.sign(0x74747474);
    };
    Sentences.Call[] questions = {
        h -> h.object(0, 6), h -> h.field(2, 0), h -> h.root(9), h -> h.all(0), h -> h.all(1), h -> h.all(2), h -> h.all(3), h -> h.list(),
        h -> h.holders(2), h -> h.way(3), h -> h.from(0), h -> h.rings(), h -> h.alone(2), h -> h.keepers(3), h -> h.cut(2, 0), h -> h.cut(2, 1),
        h -> h.cut(0, 0), h -> h.would(), h -> h.settles(), h -> h.ranks(0), h -> h.ranks(1), h -> h.ranks(2), h -> h.log(0, 1),
        h -> h.logged(3), h -> h.years(99, 40), h -> h.count(5)};
    for (int n = 0; n < questions.length; n++) {
      CountedHeap h = Sentences.made(setup), twin = Sentences.made(setup);
      due("question " + n, questions[n].on(h) < 0 ? 1 : 0, n == 2 ? 1 : 0);
      h.list(); twin.list();
      Sentences.same("question " + n + " changed", Heaps.told(h), Heaps.told(twin));
    }
  }

  @Sentences.Says("Refused calls answer NONE, or false, and change nothing but THE TEXT, which a call that reads it empties")
  static void refusedCalls() {
    Sentences.Setup setup = h -> {
      Heaps.deadRing(h, 3, 1);
      h.makes(2, 4, 2, 0); h.weaks(1, 2); h.limit(7); h.keep(1); h.sign(0x6e303030); h.list();
    };
    Sentences.refused(setup, "makes", NONE, h -> h.makes(4, 9, 7, 6));
    Sentences.refused(setup, "sets", NONE, h -> h.sets(2, 2, 2));
    Sentences.refused(setup, "sets", -2, h -> h.sets(2, 0, NONE));
    Sentences.refused(setup, "sets", -3, h -> h.sets(2, 0, 0));
    Sentences.refused(setup, "roots", NONE, h -> h.roots(0, 3));
    Sentences.refused(setup, "roots", -2, h -> h.roots(0, 2));
    Sentences.refused(setup, "roots", -3, h -> h.roots(0, 1));
    Sentences.refused(setup, "weaks", -4, h -> h.weaks(0, 3));
    Sentences.refused(setup, "weaks", -2, h -> h.weaks(1, 2));
    Sentences.refused(setup, "weaks", -3, h -> h.weaks(1, 1));
    Sentences.refused(setup, "wakes", NONE, h -> h.wakes(1, 6));
    Sentences.refused(setup, "wakes", -2, h -> h.wakes(1, 0));
    Sentences.refused(setup, "wakes", -3, h -> h.wakes(0, 0));
    Sentences.refused(setup, "limit", NONE, h -> h.limit(25));
    Sentences.refused(setup, "limit", -2, h -> h.limit(7));
    Sentences.refused(setup, "years", NONE, h -> h.years(5, 41));
    Sentences.refused(setup, "keep", 0, h -> h.keep(2) ? 1 : 0);
    Sentences.refused(setup, "again", 0, h -> h.again(0) ? 1 : 0);
    Sentences.refused(setup, "end", 0, h -> h.end(5) ? 1 : 0);
    // day() reads THE TEXT: it is empty behind that, and all else as it was.
    CountedHeap h = Sentences.made(setup), twin = Sentences.made(setup);
    due("day", h.day(), -5);
    due("count(7)", h.count(7), 0);
    twin.end(0);
    Sentences.same("day() changed", Heaps.told(h), Heaps.told(twin));
  }

  @Sentences.Says("NONE comes ahead of other answers below 0")
  static void noneIsAhead() {
    CountedHeap f = Heaps.full();
    due("makes: 24, out of bounds", f.makes(4, 10, 0, 0), NONE);
    CountedHeap h = Heaps.deadRing(0, 0);
    h.makes(1, 1, 0, 0);
    due("sets: dead, no such FIELD", h.sets(0, 1, 1), NONE);
    due("sets: dead, no such other one", h.sets(0, 0, 3), NONE);
    due("sets: it is so, no such FIELD", h.sets(2, 1, NONE), NONE);
    due("roots: it is so, no such ROOT", h.roots(6, NONE), NONE);
    due("roots: dead, no such ROOT", h.roots(-1, 0), NONE);
    due("wakes: it has none, no such ROOT", h.wakes(0, 6), NONE);
    due("wakes: it is there, no such WEAK one", h.wakes(-1, 5), NONE);
    due("cut: no such FIELD, none is in it", h.cut(2, 1), NONE);
    due("trial: -2", Heaps.chain(1, 1).trial(), -2);
  }

  @Sentences.Says("the ROW stays with each answer below 0")
  static void rowStaysBelowZero() {
    CountedHeap h = Heaps.deadRing(0, 0);
    h.makes(1, 1, 0, 0); h.weaks(3, 2); h.list();
    Sentences.Call[] calls = {
        x -> x.makes(5, 1, 0, 0), x -> x.sets(5, 0, 0), x -> x.sets(2, 0, NONE), x -> x.sets(0, 0, 2), x -> x.roots(6, 0), x -> x.roots(0, 2),
        x -> x.roots(0, 1), x -> x.weaks(4, 0), x -> x.weaks(3, 2), x -> x.weaks(3, 0), x -> x.wakes(0, 0), x -> x.wakes(3, 0), x -> x.wakes(4, 0),
        x -> x.limit(0), x -> x.limit(24), x -> x.all(4), x -> x.holders(3), x -> x.way(3), x -> x.way(0), x -> x.from(3), x -> x.alone(3),
        x -> x.alone(1), x -> x.keepers(3), x -> x.keepers(0), x -> x.cut(3, 0), x -> x.cut(2, 0), x -> x.ranks(3), x -> x.logged(6),
        x -> x.years(1, 0), x -> x.count(8)};
    for (int n = 0; n < calls.length; n++) { due("call " + n, calls[n].on(h) < 0 ? 1 : 0, 1); row(h, 0, 1); }
    due("day", Heaps.day(h, "n"), -2); row(h, 0, 1);
    due("weaks: NONE was in it", h.weaks(0, 2), NONE); row(h, 0, 1);
    CountedHeap e = Heaps.chain(2, 1);
    e.trial(); e.way(1);
    due("trial", e.trial(), -2); row(e, 0, 1);
    due("would", e.would(), -2); row(e, 0, 1);
    CountedHeap f = Heaps.full();
    f.way(5);
    due("makes", f.makes(0, 1, 0, 0), -2); row(f, 0, 1, 5);
    CountedHeap u = fresh();
    u.all(0);
    due("undo", u.undo(), NONE); row(u, 0);
  }
}
