/** Heaps that several tests begin with. */
final class Heaps {
  private static final int NONE = CountedHeap.NONE;

  private Heaps() { }

  static CountedHeap chain(int n, int fields) { CountedHeap h = new CountedHeap(); chain(h, n, fields); return h; }
  static CountedHeap deadRing(int end0, int end1) { CountedHeap h = new CountedHeap(); deadRing(h, end0, end1); return h; }
  static CountedHeap full() { CountedHeap h = new CountedHeap(); full(h); return h; }

  /** OBJECTS 0 .. n - 1 with so many FIELDS, WEIGHTS 1 .. 9 in turn, each in a FIELD of the one ahead, 0 in ROOT 0. */
  static void chain(CountedHeap h, int n, int fields) {
    for (int i = 0; i < n; i++) {
      h.makes(fields, i % 9 + 1, 0, i == 0 ? 0 : 1);
      if (i > 0) h.sets(i - 1, 0, i);
    }
    if (n > 1) h.roots(1, NONE);
  }

  /** A ring of 0 and 1, dead, both SUSPECTS; with these ENDS. */
  static void deadRing(CountedHeap h, int end0, int end1) {
    h.makes(1, 2, end0, 0); h.makes(1, 3, end1, 1);
    h.sets(0, 0, 1); h.sets(1, 0, 0);
    h.roots(0, NONE); h.roots(1, NONE);
  }

  /** 24 OBJECTS of 4 FIELDS, a tree: i is in FIELD (i - 1) % 4 of (i - 1) / 4, 0 in ROOT 0; THE LIST is empty. */
  static void full(CountedHeap h) {
    h.makes(4, 1, 0, 0);
    for (int i = 1; i < 24; i++) { h.makes(4, i % 9 + 1, 0, 1); h.sets((i - 1) / 4, (i - 1) % 4, i); }
    h.roots(1, NONE);
    h.trial();
  }

  static void write(CountedHeap h, String text) {
    for (int p = 0; p < text.length(); p += 4) {
      int v = 0;
      for (int q = p; q < p + 4; q++) v = v << 8 | (q < text.length() ? text.charAt(q) & 255 : 0);
      h.sign(v);
    }
    h.end(text.length());
  }

  static int day(CountedHeap h, String text) { write(h, text); return h.day(); }

  /** All that can be asked for, the ROW first: it asks little more than 400 calls of a full heap. */
  static String told(CountedHeap h) {
    StringBuilder s = new StringBuilder();
    for (int i = 0, n = h.count(6); i < n; i++) s.append(i == 0 ? "row " : " ").append(h.row(i));
    for (int what = 0; what < 8; what++) if (what != 6) s.append("\ncount ").append(what).append(' ').append(h.count(what));
    return s.append('\n').append(heapOf(h)).toString();
  }

  /** What Terms 1 tells of. */
  static String heapOf(CountedHeap h) {
    StringBuilder s = new StringBuilder("limit ").append(h.count(2)).append("\nlist");
    for (int i = 0, n = h.list(); i < n; i++) s.append(' ').append(h.row(i));
    for (int what = 0; what < 10; what++) s.append(what == 0 ? "\nroots " : " ").append(h.root(what));
    int there = h.all(0);
    for (int i = 0; i < 24; i++) {
      if ((there >> i & 1) == 0) continue;
      s.append("\nobject ").append(i).append(':');
      for (int what = 0; what < 7; what++) s.append(' ').append(h.object(i, what));
      for (int k = 0, n = h.object(i, 1); k < n; k++) s.append(" > ").append(h.field(i, k));
    }
    int rows = h.count(4);
    s.append("\nlog ").append(rows).append(':');
    for (int i = Math.max(0, rows - 60); i < rows; i++) s.append(' ').append(h.log(i, 0)).append('/').append(h.log(i, 1));
    for (int kind = 0; kind < 6; kind++) s.append(kind == 0 ? "\nlogged " : " ").append(h.logged(kind));
    return s.append('\n').toString();
  }
}
