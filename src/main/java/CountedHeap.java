import java.util.Arrays;
import java.util.NoSuchElementException;

/** Objects whose references are counted, with a trial for the rings that keep themselves. */
public final class CountedHeap {
    public static final int NONE = -1;

    private static final int OBJECTS = 24;
    private static final int FIELDS = 4;
    private static final int ROOTS = 6;
    private static final int WEAKS = 4;
    private static final int MOST_WEIGHT = 9;
    private static final int MOST_END = 7;
    private static final int FIRST_BACK = 2;

    private static final int KINDS = 6;
    private static final int MADE = 0;
    private static final int FREED_AT_ZERO = 1;
    private static final int FREED_BY_TRIAL = 2;
    private static final int END_RAN = 3;
    private static final int CAME_BACK = 4;
    private static final int WEAK_CLEARED = 5;

    // An ACT's kind is the letter that tells it in A DAY, so that THE TEXT needs no table.
    private static final int MAKE = 'n';
    private static final int SET = 's';
    private static final int ROOT = 'r';
    private static final int WEAK = 'w';
    private static final int WAKE = 'k';
    private static final int TRY = 't';

    private static final int IT_IS_SO = -2;
    private static final int FULL = -2;
    private static final int EMPTY = -2;
    private static final int DEAD = -2;
    private static final int UNSETTLED = -2;
    private static final int NOT_REACHED = -3;
    private static final int WEAK_HAS_NONE = -3;
    private static final int NO_SUCH_WEAK = -4;

    private static final int LATEST_ROWS = 60;
    private static final int SIGNS = 80;
    private static final int SIGNS_OF_INT = 4;
    private static final int DIGITS_FOR_NONE = 99;
    private static final int UNDOS = 8;
    private static final int KEPT = 2;
    private static final int MOST_TRIALS = 30;
    private static final int MOST_YEARS = 40;
    // Far above what 24 OBJECTS with 4 FIELDS each can need.
    private static final int MOST_STEPS = 100000;

    private final Heap now = new Heap();
    private final Heap spare = new Heap();
    private final Heap[] kept = new Heap[KEPT];
    private int keptBits;
    private final Past past = new Past();
    private final Told told = new Told();
    private final Text text = new Text();
    private final Act act = new Act();
    private final Ways ways = new Ways();
    private final Counting counting = new Counting();
    private final Trial trying = new Trial(counting);
    private final Acts acts = new Acts(counting, trying, ways);
    private final int[] keys = new int[OBJECTS];
    private int drawn;

    public CountedHeap() {
        for (int i = 0; i < KEPT; i++) {
            kept[i] = new Heap();
        }
    }

    // ---- the text

    public int sign(int v) {
        return text.takes(v) ? text.size : NONE;
    }

    public boolean end(int n) {
        if (n < 0 || n > text.size) {
            return false;
        }
        text.size = n;
        return true;
    }

    // ---- acts

    public int makes(int fields, int weight, int end, int root) {
        int number = now.leastFree();
        act.becomes(MAKE, fields, weight, end, root);
        past.marks(now);
        int rows = acts.does(now, act);
        if (rows < 0) {
            return rows;
        }
        past.keeps();
        told.tells(rows);
        return number;
    }

    public int sets(int object, int field, int to) {
        act.becomes(SET, object, field, to, 0);
        past.marks(now);
        return tellsChange(acts.does(now, act));
    }

    public int roots(int root, int to) {
        act.becomes(ROOT, root, to, 0, 0);
        past.marks(now);
        return tellsChange(acts.does(now, act));
    }

    public int weaks(int weak, int to) {
        int was = now.weakAt(weak);
        act.becomes(WEAK, weak, to, 0, 0);
        past.marks(now);
        int rows = acts.does(now, act);
        if (rows < 0) {
            return rows;
        }
        past.keeps();
        return was;
    }

    public int wakes(int weak, int root) {
        act.becomes(WAKE, weak, root, 0, 0);
        past.marks(now);
        return tellsChange(acts.does(now, act));
    }

    public int trial() {
        int freed = now.log.freed();
        int ran = now.log.ofKind[END_RAN];
        act.becomes(TRY, 0, 0, 0, 0);
        past.marks(now);
        int rows = acts.does(now, act);
        if (rows < 0) {
            return rows;
        }
        past.keeps();
        told.tells(now.log.ofKind[END_RAN] - ran, trying.visits);
        return now.log.freed() - freed;
    }

    public int limit(int v) {
        if (v < 1 || v > OBJECTS) {
            return NONE;
        }
        int was = now.limit;
        if (v == was) {
            return IT_IS_SO;
        }
        past.marks(now);
        now.limit = v;
        past.keeps();
        return was;
    }

    private int tellsChange(int rows) {
        if (rows >= 0) {
            past.keeps();
            told.tells(now.objects(), now.suspects.size);
        }
        return rows;
    }

    // ---- what there is

    public int object(int i, int what) throws NoSuchElementException {
        if (!now.has(i)) {
            throw new NoSuchElementException("no such object");
        }
        switch (what) {
            case 0: return now.counts[i];
            case 1: return now.fieldCounts[i];
            case 2: return now.weights[i];
            case 3: return now.ends[i];
            case 4: return bit(now.ran, i);
            case 5: return now.suspects.state(i);
            case 6: return bit(ways.reached(now), i);
            default: throw new NoSuchElementException("no such number of an object");
        }
    }

    public int field(int i, int k) throws NoSuchElementException {
        if (!now.hasField(i, k)) {
            throw new NoSuchElementException("no such field");
        }
        return now.fieldAt(i, k);
    }

    public int root(int what) throws NoSuchElementException {
        if (what < 0 || what >= ROOTS + WEAKS) {
            throw new NoSuchElementException("no such root");
        }
        return what < ROOTS ? now.rootAt(what) : now.weakAt(what - ROOTS);
    }

    public int all(int what) {
        int bits;
        switch (what) {
            case 0: bits = now.there; break;
            case 1: bits = ways.reached(now); break;
            case 2: bits = now.there & ~ways.reached(now); break;
            case 3: bits = now.suspects.on; break;
            default: return NONE;
        }
        told.tells(now.weightOf(bits));
        return bits;
    }

    public int list() {
        told.clears();
        for (int n = 0; n < now.suspects.size; n++) {
            told.adds(now.suspects.order[n]);
        }
        return now.suspects.size;
    }

    public int holders(int i) {
        if (!now.has(i)) {
            return NONE;
        }
        int bits = 0;
        for (int j = 0; j < OBJECTS; j++) {
            bits |= bit(now.fieldBits(j), i) << j;
        }
        told.tells(placesOf(now.root, i), placesOf(now.weak, i));
        return bits;
    }

    private static int placesOf(int[] places, int i) {
        int bits = 0;
        for (int n = 0; n < places.length; n++) {
            bits |= (places[n] == i ? 1 : 0) << n;
        }
        return bits;
    }

    public int way(int i) {
        if (!now.has(i)) {
            return NONE;
        }
        ways.measures(now, i);
        int at = ways.nearest(now.rootBits(0));
        if (at == NONE) {
            return DEAD;
        }
        told.clears();
        told.adds(at);
        for (int left = ways.far[at]; left > 0 && at != NONE; left--) {
            at = ways.nearest(now.fieldBits(at));
            told.adds(at);
        }
        return told.size;
    }

    public int from(int i) {
        if (!now.has(i)) {
            return NONE;
        }
        int behind = ways.spreads(now, now.fieldBits(i), 0);
        told.tells(bit(behind, i));
        return behind | 1 << i;
    }

    public int rings() {
        for (int i = 0; i < OBJECTS; i++) {
            keys[i] = ways.spreads(now, now.fieldBits(i), 0);
        }
        told.clears();
        int done = 0;
        for (int i = 0; i < OBJECTS; i++) {
            if (bit(keys[i], i) == 1 && bit(done, i) == 0) {
                int ring = ringOf(i);
                done |= ring;
                told.adds(ring);
            }
        }
        return told.size;
    }

    private int ringOf(int i) {
        int ring = 0;
        for (int j = 0; j < OBJECTS; j++) {
            ring |= (bit(keys[i], j) & bit(keys[j], i)) << j;
        }
        return ring;
    }

    // ---- what would be

    public int alone(int i) {
        if (!now.has(i)) {
            return NONE;
        }
        int bits = ways.hanging(now, i);
        if (bits == 0) {
            return DEAD;
        }
        told.tells(now.weightOf(bits));
        return bits;
    }

    /** Each ROOT from which one comes to the OBJECT must go, and no other: there is no choice among sets. */
    public int keepers(int i) {
        if (!now.has(i)) {
            return NONE;
        }
        int bits = 0;
        for (int r = 0; r < ROOTS; r++) {
            int start = now.rootBits(~(1 << r));
            bits |= bit(ways.spreads(now, start, 0), i) << r;
        }
        if (bits == 0) {
            return DEAD;
        }
        int left = ways.spreads(now, now.rootBits(bits), 0);
        told.tells(Integer.bitCount(ways.reached(now) & ~left));
        return bits;
    }

    public int cut(int object, int field) {
        if (!now.hasField(object, field)) {
            return NONE;
        }
        if (now.fieldAt(object, field) == NONE) {
            return EMPTY;
        }
        spare.copies(now);
        counting.laysField(spare, object, field, NONE);
        told.tells(spare.suspects.size);
        return now.there & ~spare.there;
    }

    public int would() {
        if (now.suspects.size == 0) {
            return EMPTY;
        }
        spare.copies(now);
        trying.tries(spare);
        int ran = spare.log.ofKind[END_RAN] - now.log.ofKind[END_RAN];
        told.tells(ran, trying.visits, spare.suspects.size);
        return now.there & ~spare.there;
    }

    public int settles() {
        spare.copies(now);
        int trials = 0;
        while (trials < MOST_TRIALS && spare.suspects.size > 0) {
            trying.tries(spare);
            trials++;
        }
        if (spare.suspects.size > 0) {
            return UNSETTLED;
        }
        told.tells(spare.objects(), spare.objects() - Integer.bitCount(ways.reached(spare)));
        return trials;
    }

    public int ranks(int what) {
        if (what < 0 || what > 2) {
            return NONE;
        }
        for (int i = 0; i < OBJECTS; i++) {
            keys[i] = now.has(i) ? rankKey(i, what) : NONE;
        }
        told.clears();
        int left = now.there;
        for (int n = now.objects(); n > 0; n--) {
            int first = greatest(left);
            left &= ~(1 << first);
            told.adds(first);
        }
        return told.size;
    }

    private int rankKey(int i, int what) {
        switch (what) {
            case 0: return now.counts[i];
            case 1: return now.weights[i];
            default: return now.weightOf(ways.hanging(now, i));
        }
    }

    private int greatest(int bits) {
        int best = 0;
        for (int i = 1; i < OBJECTS; i++) {
            if (bit(bits, i) == 1 && (bit(bits, best) == 0 || keys[i] > keys[best])) {
                best = i;
            }
        }
        return best;
    }

    // ---- the log

    public int log(int i, int what) throws NoSuchElementException {
        if (!now.log.has(i) || what < 0 || what > 1) {
            throw new NoSuchElementException("no such row of the log");
        }
        return what == 0 ? now.log.kindAt(i) : now.log.objectAt(i);
    }

    public int logged(int kind) {
        if (kind < 0 || kind >= KINDS) {
            return NONE;
        }
        told.tells(now.log.total);
        return now.log.ofKind[kind];
    }

    // ---- changes

    public int day() {
        int fault = text.fault();
        if (fault != NONE) {
            text.size = 0;
            return -1 - fault;
        }
        past.marks(now);
        text.starts();
        int done = 0;
        int stuck = 0;
        for (int n = 0; n < SIGNS && stuck == 0 && text.goesOn(); n++) {
            text.reads(act);
            if (acts.does(now, act) < 0) {
                stuck = 1;
            } else {
                done++;
            }
        }
        text.size = 0;
        if (done > 0) {
            past.keeps();
        }
        told.tells(stuck, now.objects());
        return done;
    }

    public int undo() {
        if (past.size == 0) {
            return NONE;
        }
        past.undoes(now);
        return past.size;
    }

    public int years(int seed, int n) {
        if (n < 1 || n > MOST_YEARS) {
            return NONE;
        }
        spare.copies(now);
        drawn = seed;
        for (int year = 0; year < n; year++) {
            drawsAct();
            acts.does(spare, act);
        }
        told.tells(spare.log.total - now.log.total, spare.suspects.size);
        return spare.there;
    }

    private void drawsAct() {
        switch (draws(4)) {
            case 0: {
                int fields = draws(FIELDS + 1);
                int end = draws(MOST_END + 1);
                act.becomes(MAKE, fields, 1, end, draws(ROOTS));
                break;
            }
            case 3: {
                int root = draws(ROOTS);
                act.becomes(ROOT, root, drawsTo(), 0, 0);
                break;
            }
            default: {
                int object = draws(OBJECTS);
                int field = draws(FIELDS);
                act.becomes(SET, object, field, drawsTo(), 0);
                break;
            }
        }
    }

    private int drawsTo() {
        int to = draws(OBJECTS + 1);
        return to == OBJECTS ? NONE : to;
    }

    private int draws(int n) {
        drawn = drawn * 1103515245 + 12345;
        return n > 0 ? (drawn >>> 16) % n : 0;
    }

    public boolean keep(int i) {
        if (i < 0 || i >= KEPT) {
            return false;
        }
        kept[i].copies(now);
        keptBits |= 1 << i;
        return true;
    }

    public boolean again(int i) {
        if (i < 0 || i >= KEPT || bit(keptBits, i) == 0) {
            return false;
        }
        now.copies(kept[i]);
        past.size = 0;
        return true;
    }

    public int count(int what) {
        switch (what) {
            case 0: return now.objects();
            case 1: return now.suspects.size;
            case 2: return now.limit;
            case 3: return now.countsTogether();
            case 4: return now.log.total;
            case 5: return past.size;
            case 6: return told.size;
            case 7: return text.size;
            default: return NONE;
        }
    }

    public long row(int i) throws NoSuchElementException {
        if (i < 0 || i >= told.size) {
            throw new NoSuchElementException("no such number of the row");
        }
        return told.numbers[i];
    }

    private static int bit(int bits, int i) {
        return bits >>> i & 1;
    }

    /** All that Terms 1 tells of, and nothing else: so it can be copied to be undone, kept or tried on. */
    private static final class Heap {
        private int there;
        private int ran;
        private int limit = OBJECTS;
        private final int[] fieldCounts = new int[OBJECTS];
        private final int[] weights = new int[OBJECTS];
        private final int[] ends = new int[OBJECTS];
        private final int[] counts = new int[OBJECTS];
        private final int[] fields = new int[OBJECTS * FIELDS];
        private final int[] root = new int[ROOTS];
        private final int[] weak = new int[WEAKS];
        private final Suspects suspects = new Suspects();
        private final Log log = new Log();

        private Heap() {
            Arrays.fill(fields, NONE);
            Arrays.fill(root, NONE);
            Arrays.fill(weak, NONE);
        }

        private void copies(Heap other) {
            there = other.there;
            ran = other.ran;
            limit = other.limit;
            System.arraycopy(other.fieldCounts, 0, fieldCounts, 0, OBJECTS);
            System.arraycopy(other.weights, 0, weights, 0, OBJECTS);
            System.arraycopy(other.ends, 0, ends, 0, OBJECTS);
            System.arraycopy(other.counts, 0, counts, 0, OBJECTS);
            System.arraycopy(other.fields, 0, fields, 0, OBJECTS * FIELDS);
            System.arraycopy(other.root, 0, root, 0, ROOTS);
            System.arraycopy(other.weak, 0, weak, 0, WEAKS);
            suspects.copies(other.suspects);
            log.copies(other.log);
        }

        private boolean has(int i) {
            return i >= 0 && i < OBJECTS && (there >>> i & 1) == 1;
        }

        private boolean hasOrNone(int i) {
            return i == NONE || has(i);
        }

        private boolean hasField(int i, int k) {
            return has(i) && k >= 0 && k < fieldCounts[i];
        }

        /** Places behind an OBJECT's FIELDS, and those of numbers that none has, are empty. */
        private int fieldAt(int i, int k) {
            return i >= 0 && i < OBJECTS && k >= 0 && k < FIELDS ? fields[i * FIELDS + k] : NONE;
        }

        private void fills(int i, int k, int to) {
            if (i >= 0 && i < OBJECTS && k >= 0 && k < FIELDS) {
                fields[i * FIELDS + k] = to;
            }
        }

        private int rootAt(int r) {
            return r >= 0 && r < ROOTS ? root[r] : NONE;
        }

        private int weakAt(int w) {
            return w >= 0 && w < WEAKS ? weak[w] : NONE;
        }

        private int objects() {
            return Integer.bitCount(there);
        }

        private int leastFree() {
            for (int i = 0; i < OBJECTS; i++) {
                if (bit(there, i) == 0) {
                    return i;
                }
            }
            return NONE;
        }

        private boolean hasEndToRun(int i) {
            return has(i) && ends[i] != 0 && bit(ran, i) == 0;
        }

        private int fieldBits(int i) {
            int bits = 0;
            for (int k = 0; k < FIELDS; k++) {
                int to = fieldAt(i, k);
                if (to != NONE) {
                    bits |= 1 << to;
                }
            }
            return bits;
        }

        private int rootBits(int without) {
            int bits = 0;
            for (int r = 0; r < ROOTS; r++) {
                if (root[r] != NONE && bit(without, r) == 0) {
                    bits |= 1 << root[r];
                }
            }
            return bits;
        }

        private int weightOf(int bits) {
            int sum = 0;
            for (int i = 0; i < OBJECTS; i++) {
                sum += bit(bits, i) * weights[i];
            }
            return sum;
        }

        private int countsTogether() {
            int sum = 0;
            for (int i = 0; i < OBJECTS; i++) {
                sum += bit(there, i) * counts[i];
            }
            return sum;
        }

        private void adds(int i, int fieldCount, int weight, int end) {
            there |= 1 << i;
            ran &= ~(1 << i);
            fieldCounts[i] = fieldCount;
            weights[i] = weight;
            ends[i] = end;
            counts[i] = 0;
            empties(i);
            log.adds(MADE, i);
        }

        private void empties(int i) {
            for (int k = 0; k < FIELDS; k++) {
                fields[i * FIELDS + k] = NONE;
            }
        }

        private void loses(int i) {
            for (int w = 0; w < WEAKS; w++) {
                if (weak[w] == i) {
                    weak[w] = NONE;
                    log.adds(WEAK_CLEARED, i);
                }
            }
            there &= ~(1 << i);
        }
    }

    /** THE LIST. */
    private static final class Suspects {
        private final int[] order = new int[OBJECTS];
        private int size;
        private int on;
        private int meant;

        private void copies(Suspects other) {
            System.arraycopy(other.order, 0, order, 0, OBJECTS);
            size = other.size;
            on = other.on;
            meant = other.meant;
        }

        private int state(int i) {
            if (bit(on, i) == 0) {
                return 0;
            }
            return bit(meant, i) == 1 ? 1 : 2;
        }

        private void means(int i) {
            meant |= 1 << i;
            if (bit(on, i) == 0 && size < OBJECTS) {
                order[size] = i;
                size++;
                on |= 1 << i;
            }
        }

        private void trusts(int i) {
            meant &= ~(1 << i);
        }

        private void drops(int i) {
            int left = 0;
            for (int n = 0; n < size; n++) {
                if (order[n] != i) {
                    order[left] = order[n];
                    left++;
                }
            }
            size = left;
            on &= ~(1 << i);
            meant &= ~(1 << i);
        }

        private void dropsTrusted() {
            int left = 0;
            for (int n = 0; n < size; n++) {
                if (bit(meant, order[n]) == 1) {
                    order[left] = order[n];
                    left++;
                }
            }
            size = left;
            on = meant;
        }

        private void clears() {
            size = 0;
            on = 0;
            meant = 0;
        }
    }

    /** THE LOG: only its latest rows can be asked for, so the older ones are written over. */
    private static final class Log {
        private final int[] kinds = new int[LATEST_ROWS];
        private final int[] objects = new int[LATEST_ROWS];
        private final int[] ofKind = new int[KINDS];
        private int total;

        private void copies(Log other) {
            System.arraycopy(other.kinds, 0, kinds, 0, LATEST_ROWS);
            System.arraycopy(other.objects, 0, objects, 0, LATEST_ROWS);
            System.arraycopy(other.ofKind, 0, ofKind, 0, KINDS);
            total = other.total;
        }

        private void adds(int kind, int object) {
            int place = total % LATEST_ROWS;
            kinds[place] = kind;
            objects[place] = object;
            ofKind[kind]++;
            total++;
        }

        private boolean has(int i) {
            return i >= 0 && i < total && i >= total - LATEST_ROWS;
        }

        private int kindAt(int i) {
            return has(i) ? kinds[i % LATEST_ROWS] : NONE;
        }

        private int objectAt(int i) {
            return has(i) ? objects[i % LATEST_ROWS] : NONE;
        }

        private int freed() {
            return ofKind[FREED_AT_ZERO] + ofKind[FREED_BY_TRIAL];
        }
    }

    /** REFERENCES that become others, with all that comes of it. */
    private static final class Counting {
        // OBJECTS whose FIELDS are just being emptied, the innermost last.
        private final int[] going = new int[OBJECTS];
        private int depth;

        private void laysField(Heap h, int i, int k, int to) {
            int old = h.fieldAt(i, k);
            h.fills(i, k, to);
            recounts(h, old, to);
        }

        private void laysRoot(Heap h, int r, int to) {
            int old = h.root[r];
            h.root[r] = to;
            recounts(h, old, to);
        }

        private void recounts(Heap h, int old, int to) {
            if (to != NONE) {
                h.counts[to]++;
                h.suspects.trusts(to);
            }
            countsDown(h, old);
        }

        /** A loop, not recursion: chains of OBJECTS that go and come back would nest deep. */
        private void countsDown(Heap h, int first) {
            depth = 0;
            int next = first;
            for (int step = 0; step < MOST_STEPS && (next != NONE || depth > 0); step++) {
                next = next != NONE ? countsOneDown(h, next) : goesOnFreeing(h);
            }
        }

        /** Answers whom to count down next: who was in the ROOT to which it came back. */
        private int countsOneDown(Heap h, int i) {
            h.counts[i]--;
            if (h.counts[i] > 0) {
                if (h.fieldCounts[i] > 0) {
                    h.suspects.means(i);
                }
                return NONE;
            }
            h.suspects.drops(i);
            if (h.hasEndToRun(i)) {
                int old = runsEnd(h, i);
                if (h.counts[i] > 0) {
                    return old;
                }
            }
            h.log.adds(FREED_AT_ZERO, i);
            if (depth < OBJECTS) {
                going[depth] = i;
                depth++;
            }
            return NONE;
        }

        /** Answers who was in the ROOT to which it came back: the caller counts that one down. */
        private int runsEnd(Heap h, int i) {
            h.ran |= 1 << i;
            h.log.adds(END_RAN, i);
            int r = h.ends[i] - FIRST_BACK;
            if (r < 0 || r >= ROOTS) {
                return NONE;
            }
            h.log.adds(CAME_BACK, i);
            int old = h.root[r];
            h.root[r] = i;
            h.counts[i]++;
            h.suspects.trusts(i);
            return old;
        }

        /** Answers whom to count down next: who was in the next FIELD of the innermost one that goes. */
        private int goesOnFreeing(Heap h) {
            int i = going[depth - 1];
            for (int k = 0; k < FIELDS; k++) {
                int to = h.fieldAt(i, k);
                if (to != NONE) {
                    h.fills(i, k, NONE);
                    return to;
                }
            }
            depth--;
            h.loses(i);
            return NONE;
        }
    }

    /** A TRIAL. */
    private static final class Trial {
        private static final int PLAIN = 0;
        private static final int GRAY = 1;
        private static final int WHITE = 2;
        private static final int BLACK = 3;

        private final Counting counting;
        private final int[] colours = new int[OBJECTS];
        private final int[] countsAhead = new int[OBJECTS];
        private final int[] waiting = new int[OBJECTS];
        private final int[] path = new int[OBJECTS];
        private final int[] pathField = new int[OBJECTS];
        private int depth;
        private int visits;

        private Trial(Counting counting) {
            this.counting = counting;
        }

        private void tries(Heap h) {
            visits = 0;
            Arrays.fill(colours, PLAIN);
            System.arraycopy(h.counts, 0, countsAhead, 0, OBJECTS);
            h.suspects.dropsTrusted();
            for (int n = 0; n < h.suspects.size; n++) {
                takesAway(h, h.suspects.order[n]);
            }
            for (int n = 0; n < h.suspects.size; n++) {
                looksThrough(h, h.suspects.order[n]);
            }
            h.suspects.clears();
            if (hasWhiteEnd(h)) {
                runsEnds(h);
            } else {
                frees(h);
            }
        }

        private void paints(int i, int colour) {
            colours[i] = colour;
            visits++;
        }

        private void takesAway(Heap h, int start) {
            if (colours[start] != GRAY) {
                spreads(h, start, GRAY, -1);
            }
        }

        /** Whom one comes to from the start gets the colour; the order in which they do changes nothing. */
        private void spreads(Heap h, int start, int colour, int change) {
            int size = 1;
            waiting[0] = start;
            paints(start, colour);
            for (int n = 0; n < size && n < OBJECTS; n++) {
                for (int k = 0; k < FIELDS; k++) {
                    int to = h.fieldAt(waiting[n], k);
                    if (to == NONE) {
                        continue;
                    }
                    h.counts[to] += change;
                    if (colours[to] != colour && size < OBJECTS) {
                        waiting[size] = to;
                        size++;
                        paints(to, colour);
                    }
                }
            }
        }

        /** Here the order counts: who is met too early is WHITE first and BLACK later, two VISITS. */
        private void looksThrough(Heap h, int start) {
            depth = 0;
            looksAt(h, start);
            for (int step = 0; step < MOST_STEPS && depth > 0; step++) {
                int i = path[depth - 1];
                int k = pathField[depth - 1];
                if (k < FIELDS) {
                    pathField[depth - 1]++;
                    looksAt(h, h.fieldAt(i, k));
                } else {
                    depth--;
                }
            }
        }

        private void looksAt(Heap h, int i) {
            if (i == NONE || colours[i] != GRAY) {
                return;
            }
            if (h.counts[i] > 0) {
                spreads(h, i, BLACK, 1);
            } else if (depth < OBJECTS) {
                paints(i, WHITE);
                path[depth] = i;
                pathField[depth] = 0;
                depth++;
            }
        }

        private boolean hasWhiteEnd(Heap h) {
            for (int i = 0; i < OBJECTS; i++) {
                if (colours[i] == WHITE && h.hasEndToRun(i)) {
                    return true;
                }
            }
            return false;
        }

        private void frees(Heap h) {
            for (int i = 0; i < OBJECTS; i++) {
                if (colours[i] == WHITE) {
                    h.log.adds(FREED_BY_TRIAL, i);
                    h.empties(i);
                    h.loses(i);
                }
            }
        }

        private void runsEnds(Heap h) {
            System.arraycopy(countsAhead, 0, h.counts, 0, OBJECTS);
            for (int i = 0; i < OBJECTS; i++) {
                if (colours[i] == WHITE && h.hasEndToRun(i)) {
                    counting.countsDown(h, counting.runsEnd(h, i));
                }
            }
            for (int i = 0; i < OBJECTS; i++) {
                if (colours[i] == WHITE && h.has(i) && h.fieldCounts[i] > 0 && bit(h.suspects.on, i) == 0) {
                    h.suspects.means(i);
                }
            }
        }
    }

    /** Who comes to whom over FIELDS. */
    private static final class Ways {
        private final int[] far = new int[OBJECTS];

        private int reached(Heap h) {
            return spreads(h, h.rootBits(0), 0);
        }

        private int hanging(Heap h, int i) {
            int without = 1 << i;
            return reached(h) & ~spreads(h, h.rootBits(0), without);
        }

        private int spreads(Heap h, int start, int without) {
            int seen = start & ~without;
            int waiting = seen;
            for (int step = 0; step < OBJECTS && waiting != 0; step++) {
                int lowest = waiting & -waiting;
                int found = h.fieldBits(Integer.bitCount(lowest - 1)) & ~seen & ~without;
                seen |= found;
                waiting = waiting & ~lowest | found;
            }
            return seen;
        }

        /** How many FIELDS each one is away from the target; NONE: one does not come to it. */
        private void measures(Heap h, int target) {
            Arrays.fill(far, NONE);
            far[target] = 0;
            int near = 1 << target;
            for (int steps = 1; steps < OBJECTS && near != 0; steps++) {
                int next = 0;
                for (int i = 0; i < OBJECTS; i++) {
                    if (far[i] == NONE && (h.fieldBits(i) & near) != 0) {
                        far[i] = steps;
                        next |= 1 << i;
                    }
                }
                near = next;
            }
        }

        private int nearest(int bits) {
            int best = NONE;
            for (int i = 0; i < OBJECTS; i++) {
                if (bit(bits, i) == 1 && far[i] != NONE && (best == NONE || far[i] < far[best])) {
                    best = i;
                }
            }
            return best;
        }
    }

    /** An ACT that is asked for, with the numbers of the call of that name, in its order. */
    private static final class Act {
        private int kind;
        private int first;
        private int second;
        private int third;
        private int fourth;

        private void becomes(int newKind, int a, int b, int c, int d) {
            kind = newKind;
            first = a;
            second = b;
            third = c;
            fourth = d;
        }
    }

    /** ACTS on any heap: the one there is, or one to try on. */
    private static final class Acts {
        private final Counting counting;
        private final Trial trying;
        private final Ways ways;

        private Acts(Counting counting, Trial trying, Ways ways) {
            this.counting = counting;
            this.trying = trying;
            this.ways = ways;
        }

        /** Answers how many rows THE LOG got; below 0, as the call does, if it is refused. */
        private int does(Heap h, Act a) {
            int refusal = refuses(h, a);
            if (refusal < 0) {
                return refusal;
            }
            int before = h.log.total;
            switch (a.kind) {
                case MAKE: {
                    int i = h.leastFree();
                    h.adds(i, a.first, a.second, a.third);
                    counting.laysRoot(h, a.fourth, i);
                    break;
                }
                case SET: counting.laysField(h, a.first, a.second, a.third); break;
                case ROOT: counting.laysRoot(h, a.first, a.second); break;
                case WEAK: h.weak[a.first] = a.second; break;
                case WAKE: counting.laysRoot(h, a.second, h.weak[a.first]); break;
                default: trying.tries(h); break;
            }
            if (a.kind != WEAK && a.kind != TRY && h.suspects.size >= h.limit) {
                trying.tries(h);
            }
            return h.log.total - before;
        }

        private int refuses(Heap h, Act a) {
            switch (a.kind) {
                case MAKE: return refusesMake(h, a);
                case SET: return refusesSet(h, a.first, a.second, a.third);
                case ROOT: return refusesRoot(h, a.first, a.second);
                case WEAK: return refusesWeak(h, a.first, a.second);
                case WAKE: return refusesWake(h, a.first, a.second);
                case TRY: return h.suspects.size == 0 ? EMPTY : 0;
                default: return NONE;
            }
        }

        private int refusesMake(Heap h, Act a) {
            if (!isWithin(a.first, 0, FIELDS) || !isWithin(a.second, 1, MOST_WEIGHT)
                    || !isWithin(a.third, 0, MOST_END) || !isWithin(a.fourth, 0, ROOTS - 1)) {
                return NONE;
            }
            return h.leastFree() == NONE ? FULL : 0;
        }

        private int refusesSet(Heap h, int object, int field, int to) {
            if (!h.hasField(object, field) || !h.hasOrNone(to)) {
                return NONE;
            }
            if (h.fieldAt(object, field) == to) {
                return IT_IS_SO;
            }
            int reached = ways.reached(h);
            return isIn(reached, object) && isIn(reached, to) ? 0 : NOT_REACHED;
        }

        private int refusesRoot(Heap h, int root, int to) {
            if (!isWithin(root, 0, ROOTS - 1) || !h.hasOrNone(to)) {
                return NONE;
            }
            if (h.root[root] == to) {
                return IT_IS_SO;
            }
            return isIn(ways.reached(h), to) ? 0 : NOT_REACHED;
        }

        private int refusesWeak(Heap h, int weak, int to) {
            if (!isWithin(weak, 0, WEAKS - 1) || !h.hasOrNone(to)) {
                return NO_SUCH_WEAK;
            }
            if (h.weak[weak] == to) {
                return IT_IS_SO;
            }
            return isIn(ways.reached(h), to) ? 0 : NOT_REACHED;
        }

        private int refusesWake(Heap h, int weak, int root) {
            if (!isWithin(weak, 0, WEAKS - 1) || !isWithin(root, 0, ROOTS - 1)) {
                return NONE;
            }
            if (h.weak[weak] == NONE) {
                return WEAK_HAS_NONE;
            }
            return h.root[root] == h.weak[weak] ? IT_IS_SO : 0;
        }

        private static boolean isIn(int bits, int objectOrNone) {
            return objectOrNone == NONE || bit(bits, objectOrNone) == 1;
        }

        private static boolean isWithin(int v, int least, int most) {
            return v >= least && v <= most;
        }
    }

    /** THE TEXT, and how it tells A DAY. */
    private static final class Text {
        private final int[] signs = new int[SIGNS];
        private int size;
        private int at;

        private boolean takes(int v) {
            if (size > SIGNS - SIGNS_OF_INT) {
                return false;
            }
            for (int shift = 24; shift >= 0; shift -= 8) {
                signs[size] = v >>> shift & 255;
                size++;
            }
            return true;
        }

        /** Where the first sign is that can't stand there; NONE: all can. */
        private int fault() {
            int digits = 0;
            for (int p = 0; p < size; p++) {
                if (digits > 0) {
                    if (signs[p] < '0' || signs[p] > '9') {
                        return p;
                    }
                    digits--;
                } else {
                    digits = digitsOf(signs[p]);
                    if (digits == NONE) {
                        return p;
                    }
                }
            }
            return digits > 0 ? size : NONE;
        }

        private static int digitsOf(int kind) {
            switch (kind) {
                case MAKE: return 4;
                case SET: return 5;
                case ROOT: return 3;
                case WEAK: return 3;
                case WAKE: return 2;
                case TRY: return 0;
                default: return NONE;
            }
        }

        private void starts() {
            at = 0;
        }

        private boolean goesOn() {
            return at < size;
        }

        private void reads(Act a) {
            int kind = next();
            switch (kind) {
                case MAKE: a.becomes(kind, digit(), digit(), digit(), digit()); break;
                case SET: a.becomes(kind, twoDigits(), digit(), target(), 0); break;
                case ROOT:
                case WEAK: a.becomes(kind, digit(), target(), 0, 0); break;
                case WAKE: a.becomes(kind, digit(), digit(), 0, 0); break;
                default: a.becomes(kind, 0, 0, 0, 0); break;
            }
        }

        private int next() {
            if (at >= size) {
                return NONE;
            }
            at++;
            return signs[at - 1];
        }

        private int digit() {
            return next() - '0';
        }

        private int twoDigits() {
            int tens = digit();
            return tens * 10 + digit();
        }

        private int target() {
            int number = twoDigits();
            return number == DIGITS_FOR_NONE ? NONE : number;
        }
    }

    /** The ROW. */
    private static final class Told {
        private final long[] numbers = new long[OBJECTS];
        private int size;

        private void clears() {
            size = 0;
        }

        private void adds(long number) {
            if (size < OBJECTS) {
                numbers[size] = number;
                size++;
            }
        }

        private void tells(long first) {
            clears();
            adds(first);
        }

        private void tells(long first, long second) {
            tells(first);
            adds(second);
        }

        private void tells(long first, long second, long third) {
            tells(first, second);
            adds(third);
        }
    }

    /** Heaps as they were, to be undone; one place more than are kept, so that a mark may come to nothing. */
    private static final class Past {
        private final Heap[] heaps = new Heap[UNDOS + 1];
        private int next;
        private int size;

        private Past() {
            for (int i = 0; i <= UNDOS; i++) {
                heaps[i] = new Heap();
            }
        }

        private void marks(Heap h) {
            heaps[next].copies(h);
        }

        private void keeps() {
            next = next == UNDOS ? 0 : next + 1;
            size = Math.min(size + 1, UNDOS);
        }

        private void undoes(Heap h) {
            if (size > 0) {
                next = next == 0 ? UNDOS : next - 1;
                size--;
                h.copies(heaps[next]);
            }
        }
    }
}
