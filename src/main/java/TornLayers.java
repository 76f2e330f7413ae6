import java.util.Arrays;

/**
 * Layers of bytes in counted, shared clusters. Every deed is a row of single writes in an order
 * that can be torn behind any of them: counts are raised before a cluster is named and lowered
 * after it is named no more, so that what is torn leaves counts too high, never too low.
 */
public final class TornLayers {
    public static final int NONE = -1;

    private static final int BAD = -1001;
    private static final int FULL = -1002;
    private static final int STATE = -1003;
    private static final int ROUND = -1004;
    private static final int TORN = -1005;
    private static final int REFUSALS = 4;

    private static final int LAYERS = 6;
    private static final int SNAPSHOTS = 8;
    /** Layers first, snapshots behind them: all who have a directory. */
    private static final int HOLDERS = LAYERS + SNAPSHOTS;
    /** Number 0 stands for none, so that 63 are in use. */
    private static final int CLUSTERS = 64;
    private static final int PLACES = 64;
    private static final int BLOCKS = 16;
    /** Places of a block, cells of a cluster, numbers of a directory. */
    private static final int FOUR = 4;
    /** Where the document's bits and numbers of snapshots begin, in holds, alone and holders. */
    private static final int FIRST_SNAPSHOT = 10;

    private static final int MOST_BYTE = 255;
    private static final int MOST_SPOIL = 99;
    private static final int MOST_TEAR = 999;
    private static final int MOST_TORN = 99;
    private static final int MOST_TAPE = 120;
    private static final int MOST_FED = 8;
    /** More writes than any deed has. */
    private static final int NO_LIMIT = 1000000;

    /** The deeds; those told in texts stand in the order of LETTERS. */
    private static final int WRITE = 0;
    private static final int SNAP = 1;
    private static final int DROP = 2;
    private static final int REVERT = 3;
    private static final int GIVE_UP = 4;
    private static final int MERGE = 5;
    private static final int FOLD = 6;
    private static final int MOVE = 7;
    private static final String LETTERS = "wsdrgmf";
    private static final int[] NUMBERS_OF = {3, 1, 1, 1, 2, 1, 0};
    private static final int MOST_NUMBERS = 3;
    private static final int MOST_DIGITS = 3;

    private final Image now = new Image();
    private final Image kept = new Image();
    private final Thought thought = new Thought();
    private final Tape tape = new Tape();
    private final int[] refusals = new int[REFUSALS];
    private boolean somethingKept = false;
    private int writesEver = 0;

    public TornLayers() {
    }

    // ---- layers, places

    public int layer(int backing) {
        if (!now.hasBacking(backing)) {
            return refuse(BAD);
        }
        if (now.layers >= LAYERS) {
            return refuse(FULL);
        }
        return now.addLayer(backing);
    }

    public int of(int l, int what) {
        if (!now.hasLayer(l)) {
            return refuse(BAD);
        }
        switch (what) {
            case 0:
                return now.backings[l];
            case 1:
                return now.ownBlocks(l);
            case 2:
                return rewritingCost(l);
            case 3:
                return now.layersBelow(l);
            default:
                return refuse(BAD);
        }
    }

    public int read(int l, int place) {
        if (!now.hasLayer(l) || !isPlace(place)) {
            return refuse(BAD);
        }
        return now.at(l, place);
    }

    public int readOld(int s, int place) {
        if (!now.hasSnapshot(s) || !isPlace(place)) {
            return refuse(BAD);
        }
        return now.atOld(s, place);
    }

    public int unlike(int l, int other) {
        if (!now.hasLayer(l) || !now.hasLayer(other)) {
            return refuse(BAD);
        }
        for (int place = 0; place < PLACES; place++) {
            if (now.at(l, place) != now.at(other, place)) {
                return place;
            }
        }
        return NONE;
    }

    public int sum(int l) {
        if (!now.hasLayer(l)) {
            return refuse(BAD);
        }
        int sum = 1;
        for (int place = 0; place < PLACES; place++) {
            sum = 31 * sum + now.at(l, place);
        }
        return sum;
    }

    // ---- deeds: how many WRITES were done

    public int write(int l, int place, int v) {
        return settle(foresee(WRITE, l, place, v));
    }

    public int snap(int l) {
        return settle(foresee(SNAP, l, 0, 0));
    }

    public int drop(int s) {
        return settle(foresee(DROP, s, 0, 0));
    }

    public int revert(int s) {
        return settle(foresee(REVERT, s, 0, 0));
    }

    public int giveUp(int l, int b) {
        return settle(foresee(GIVE_UP, l, b, 0));
    }

    public int merge(int l) {
        return settle(foresee(MERGE, l, 0, 0));
    }

    public int move(int l, int backing, int safe) {
        return settle(foresee(MOVE, l, backing, safe));
    }

    public int fold() {
        return settle(foresee(FOLD, 0, 0, 0));
    }

    public int tear(int n) {
        if (n < NONE || n > MOST_TEAR) {
            return refuse(BAD);
        }
        int before = now.tearBehind;
        now.tearBehind = n;
        return before;
    }

    // ---- counts

    public int cluster(int c, int what) {
        if (!isCluster(c)) {
            return refuse(BAD);
        }
        switch (what) {
            case 0:
                return now.counts[c];
            case 1:
                now.countTrue();
                return now.trueCounts[c];
            case 2:
            case 3:
            case 4:
            case 5:
                return now.cells[c * FOUR + what - 2];
            default:
                return refuse(BAD);
        }
    }

    public int spoil(int c, int n) {
        if (!isCluster(c) || n < 0 || n > MOST_SPOIL) {
            return refuse(BAD);
        }
        int before = now.counts[c];
        now.counts[c] = n;
        return before;
    }

    public long all(int what) {
        switch (what) {
            case 0:
                return now.leakSet();
            case 1:
                return now.lackSet();
            case 2:
                return now.freeSet();
            case 3:
                return now.sharedData();
            default:
                return 0;
        }
    }

    public int repair() {
        return now.mendCounts();
    }

    // ---- who holds what

    public long holds(int who) {
        return now.heldBy(holderOf(who));
    }

    public long alone(int who) {
        int holder = holderOf(who);
        long others = 0;
        for (int h = 0; h < HOLDERS; h++) {
            if (h != holder) {
                others |= now.heldBy(h);
            }
        }
        return now.heldBy(holder) & ~others;
    }

    public int holders(int c) {
        if (!isCluster(c)) {
            return refuse(BAD);
        }
        int set = 0;
        for (int h = 0; h < HOLDERS; h++) {
            if (isIn(now.heldBy(h), c)) {
                set |= 1 << (h < LAYERS ? h : h - LAYERS + FIRST_SNAPSHOT);
            }
        }
        return set;
    }

    public int best(int what) {
        if (what != 0 && what != 1) {
            return refuse(BAD);
        }
        if (now.lackSet() != 0) {
            return NONE;
        }
        int which = NONE;
        int most = NONE;
        for (int s = 0; s < SNAPSHOTS; s++) {
            int freed = now.hasSnapshot(s) ? freedByDrop(s) : NONE;
            if (freed > most) {
                most = freed;
                which = s;
            }
        }
        return what == 0 ? which : most;
    }

    public int twins() {
        long data = now.dataNamedBy(now.tablesOf(0, HOLDERS));
        int pairs = 0;
        for (int c = 1; c < CLUSTERS; c++) {
            for (int d = c + 1; d < CLUSTERS; d++) {
                if (isIn(data, c) && isIn(data, d) && now.alike(c, d)) {
                    pairs++;
                }
            }
        }
        return pairs;
    }

    // ---- in thought (nothing changes; the TEAR aside)

    public int cost(int l, int place) {
        return foresee(WRITE, l, place, 0);
    }

    public int torn(int l, int place, int v, int n) {
        int need = isTornBehind(n) ? foresee(WRITE, l, place, v) : refuse(BAD);
        if (need < 0) {
            return need;
        }
        thought.go(now, n);
        // A REPAIR behind it changes counts alone, which no place is read by.
        return thought.image.at(l, place);
    }

    public int leaks(int l, int place, int n) {
        // Any v will do: it comes into a DATA, by which nothing is counted.
        int need = isTornBehind(n) ? foresee(WRITE, l, place, 0) : refuse(BAD);
        if (need < 0) {
            return need;
        }
        thought.go(now, n);
        return Long.bitCount(thought.image.leakSet());
    }

    public int behind(int l, int place, int v) {
        int need = foresee(WRITE, l, place, v);
        if (need < 0) {
            return need;
        }
        if (now.at(l, place) == v) {
            return NONE;
        }
        for (int n = 0; n < need; n++) {
            thought.go(now, n);
            if (thought.image.at(l, place) == v) {
                return n;
            }
        }
        return need;
    }

    public int room(int l) {
        if (!now.hasLayer(l)) {
            return refuse(BAD);
        }
        if (now.lackSet() != 0) {
            return refuse(STATE);
        }
        return thought.rewriteAll(now, l);
    }

    // ---- texts

    public int feed(long bytes, int n) {
        if (n < 1 || n > MOST_FED) {
            return refuse(BAD);
        }
        if (tape.length + n > MOST_TAPE) {
            return refuse(FULL);
        }
        for (int i = 0; i < n; i++) {
            tape.append((int) (bytes >>> (8 * i)) & MOST_BYTE);
        }
        return tape.length;
    }

    public int wipe() {
        int before = tape.length;
        tape.length = 0;
        return before;
    }

    public int run() {
        int fault = tape.faultPlace();
        int answer = fault == NONE ? tape.deeds : -10 - fault;
        int[] numbers = tape.numbers;
        tape.at = 0;
        for (int told = 0; told < answer; told++) {
            tape.takeDeed();
            if (settle(foresee(tape.kind, numbers[0], numbers[1], numbers[2])) < 0) {
                answer = -300 - told;
            }
            tape.takeParting();
        }
        tape.length = 0;
        return answer;
    }

    // ---- all of it

    public int keep() {
        kept.copyFrom(now);
        somethingKept = true;
        return Long.bitCount(now.freeSet());
    }

    public int again() {
        if (!somethingKept) {
            return refuse(STATE);
        }
        now.copyFrom(kept);
        return Long.bitCount(now.freeSet());
    }

    public int count(int what) {
        switch (what) {
            case 0:
                return now.layers;
            case 1:
                return now.snapshotSet();
            case 2:
                return Long.bitCount(now.freeSet());
            case 3:
                return now.tearBehind;
            case 4:
                return tape.length;
            case 5:
                return writesEver;
            default:
                return refuse(BAD);
        }
    }

    public int refused(int which) {
        if (which < 0 || which >= REFUSALS) {
            return refuse(BAD);
        }
        return refusals[which];
    }

    // ---- what the acts share

    private int refuse(int refusal) {
        int which = BAD - refusal;
        if (which >= 0 && which < REFUSALS) {
            refusals[which]++;
        }
        return refusal;
    }

    /** How many writes a deed would do with no tear, or the refusal it meets (then counted). */
    private int foresee(int kind, int a, int b, int c) {
        if (!fits(kind, a, b, c)) {
            return refuse(BAD);
        }
        if (now.lackSet() != 0 || isHindered(kind, a)) {
            return refuse(STATE);
        }
        if (kind == MOVE && now.standsOn(b, a)) {
            return refuse(ROUND);
        }
        thought.set(kind, a, b, c);
        thought.go(now, NO_LIMIT);
        return thought.halt == FULL ? refuse(FULL) : thought.done;
    }

    /** What was foreseen becomes so in deed, as far as the tear lets it. */
    private int settle(int foreseen) {
        if (foreseen < 0) {
            return foreseen;
        }
        if (now.tearBehind != NONE) {
            thought.go(now, now.tearBehind);
        }
        now.copyFrom(thought.image);
        now.tearBehind = NONE;
        writesEver += thought.done;
        return thought.halt == TORN ? TORN : thought.done;
    }

    private boolean fits(int kind, int a, int b, int c) {
        switch (kind) {
            case WRITE:
                return now.hasLayer(a) && isPlace(b) && c >= 0 && c <= MOST_BYTE;
            case SNAP:
            case MERGE:
                return now.hasLayer(a);
            case DROP:
            case REVERT:
                return now.hasSnapshot(a);
            case GIVE_UP:
                return now.hasLayer(a) && b >= 0 && b < BLOCKS;
            case MOVE:
                return now.hasLayer(a) && now.hasBacking(b) && (c == 0 || c == 1);
            default:
                return true;
        }
    }

    /** What STATE names beside a LACK. */
    private boolean isHindered(int kind, int a) {
        if (kind == SNAP) {
            return now.leastMissingSnapshot() == NONE;
        }
        return kind == MERGE && now.hasLayer(a) && now.backings[a] == NONE;
    }

    private int rewritingCost(int l) {
        if (now.lackSet() != 0 || thought.rewriteAll(now, l) < PLACES) {
            return NONE;
        }
        return thought.done;
    }

    private int freedByDrop(int s) {
        thought.set(DROP, s, 0, 0);
        thought.go(now, NO_LIMIT);
        return Long.bitCount(thought.image.freeSet() & ~now.freeSet());
    }

    private static boolean isTornBehind(int n) {
        return n >= 0 && n <= MOST_TORN;
    }

    private static boolean isPlace(int place) {
        return place >= 0 && place < PLACES;
    }

    private static boolean isCluster(int c) {
        return c > 0 && c < CLUSTERS;
    }

    private static boolean isIn(long set, int c) {
        return (set >>> c & 1L) != 0;
    }

    /** The document numbers snapshots from 10 on here; NONE for no such number. */
    private static int holderOf(int who) {
        if (who >= 0 && who < LAYERS) {
            return who;
        }
        if (who >= FIRST_SNAPSHOT && who < FIRST_SNAPSHOT + SNAPSHOTS) {
            return who - FIRST_SNAPSHOT + LAYERS;
        }
        return NONE;
    }

    /** All that is kept and laid again. The directory of a holder who isn't there is all 0. */
    private static final class Image {
        final int[] cells = new int[CLUSTERS * FOUR];
        final int[] counts = new int[CLUSTERS];
        final int[] directories = new int[HOLDERS * FOUR];
        final int[] backings = new int[LAYERS];
        /** The layer of each snapshot, NONE: it isn't there. */
        final int[] snapLayers = new int[SNAPSHOTS];
        int layers = 0;
        int tearBehind = NONE;
        /** Made anew by countTrue and countCells, never kept. */
        final int[] trueCounts = new int[CLUSTERS];

        Image() {
            Arrays.fill(backings, NONE);
            Arrays.fill(snapLayers, NONE);
        }

        void copyFrom(Image other) {
            System.arraycopy(other.cells, 0, cells, 0, cells.length);
            System.arraycopy(other.counts, 0, counts, 0, counts.length);
            System.arraycopy(other.directories, 0, directories, 0, directories.length);
            System.arraycopy(other.backings, 0, backings, 0, backings.length);
            System.arraycopy(other.snapLayers, 0, snapLayers, 0, snapLayers.length);
            layers = other.layers;
            tearBehind = other.tearBehind;
        }

        boolean hasLayer(int l) {
            return l >= 0 && l < layers && l < LAYERS;
        }

        boolean hasBacking(int backing) {
            return backing == NONE || hasLayer(backing);
        }

        boolean hasSnapshot(int s) {
            return s >= 0 && s < SNAPSHOTS && snapLayers[s] != NONE;
        }

        int addLayer(int backing) {
            int l = layers;
            if (l >= LAYERS) {
                return NONE;
            }
            backings[l] = backing;
            layers++;
            return l;
        }

        int snapshotSet() {
            int set = 0;
            for (int s = 0; s < SNAPSHOTS; s++) {
                if (snapLayers[s] != NONE) {
                    set |= 1 << s;
                }
            }
            return set;
        }

        int leastMissingSnapshot() {
            for (int s = 0; s < SNAPSHOTS; s++) {
                if (snapLayers[s] == NONE) {
                    return s;
                }
            }
            return NONE;
        }

        int layersBelow(int l) {
            int below = 0;
            int lower = backings[l];
            while (lower >= 0 && lower < LAYERS && below < LAYERS) {
                below++;
                lower = backings[lower];
            }
            return below;
        }

        /** Whether a layer is another one or stands on it, by any number of backings. */
        boolean standsOn(int upper, int l) {
            int lower = upper;
            for (int depth = 0; depth < LAYERS && lower >= 0 && lower < LAYERS; depth++) {
                if (lower == l) {
                    return true;
                }
                lower = backings[lower];
            }
            return false;
        }

        /** Number i of a directory; 0 where no cluster is told, so that it can be an index. */
        int tableAt(int holder, int i) {
            int at = holder * FOUR + i;
            int table = at >= 0 && at < directories.length ? directories[at] : 0;
            return table > 0 && table < CLUSTERS ? table : 0;
        }

        /** Cell i of a table; 0 where no cluster is told, so that it can be an index. */
        int dataAt(int table, int i) {
            int at = table * FOUR + i;
            int data = at >= FOUR && at < cells.length ? cells[at] : 0;
            return data > 0 && data < CLUSTERS ? data : 0;
        }

        /** The DATA of a BLOCK; 0: it isn't OWN. */
        int dataOf(int holder, int block) {
            return dataAt(tableAt(holder, block / FOUR), block % FOUR);
        }

        int ownBlocks(int l) {
            int set = 0;
            for (int block = 0; block < BLOCKS; block++) {
                if (dataOf(l, block) != 0) {
                    set |= 1 << block;
                }
            }
            return set;
        }

        /** What a place of a layer is; 0 for the layer NONE. */
        int at(int layer, int place) {
            int l = layer;
            for (int depth = 0; depth < LAYERS && l >= 0 && l < LAYERS; depth++) {
                int data = dataAt(tableAt(l, place / (FOUR * FOUR)), place / FOUR % FOUR);
                if (data != 0) {
                    return cells[data * FOUR + place % FOUR];
                }
                l = backings[l];
            }
            return 0;
        }

        int atOld(int s, int place) {
            int data = dataOf(LAYERS + s, place / FOUR);
            if (data != 0) {
                return cells[data * FOUR + place % FOUR];
            }
            int l = snapLayers[s];
            return hasLayer(l) ? at(backings[l], place) : 0;
        }

        boolean sameBlock(int l, int other, int block) {
            for (int place = block * FOUR; place < (block + 1) * FOUR; place++) {
                if (at(l, place) != at(other, place)) {
                    return false;
                }
            }
            return true;
        }

        boolean alike(int c, int d) {
            for (int i = 0; i < FOUR; i++) {
                if (cells[c * FOUR + i] != cells[d * FOUR + i]) {
                    return false;
                }
            }
            return true;
        }

        /** The least of a set of clusters with all cells as those of d, which is in it. */
        int leastAlike(long data, int d) {
            for (int e = 1; e < d; e++) {
                if (isIn(data, e) && alike(e, d)) {
                    return e;
                }
            }
            return d;
        }

        /** TABLES of the holders from a first one on, up to an end that is left out. */
        long tablesOf(int first, int end) {
            long tables = 0;
            for (int h = first; h < end; h++) {
                for (int i = 0; i < FOUR; i++) {
                    tables |= 1L << tableAt(h, i);
                }
            }
            return tables & ~1L;
        }

        long dataNamedBy(long tables) {
            long data = 0;
            for (int t = 1; t < CLUSTERS; t++) {
                for (int i = 0; i < FOUR && isIn(tables, t); i++) {
                    data |= 1L << dataAt(t, i);
                }
            }
            return data & ~1L;
        }

        /** HOLDS of a holder; nothing for NONE. */
        long heldBy(int holder) {
            long tables = holder < 0 ? 0 : tablesOf(holder, holder + 1);
            return tables | dataNamedBy(tables);
        }

        /** Counts into trueCounts how many cells of named tables name each cluster. */
        void countCells() {
            Arrays.fill(trueCounts, 0);
            long tables = tablesOf(0, HOLDERS);
            for (int t = 1; t < CLUSTERS; t++) {
                for (int i = 0; i < FOUR && isIn(tables, t); i++) {
                    trueCounts[dataAt(t, i)]++;
                }
            }
            trueCounts[0] = 0;
        }

        void countTrue() {
            countCells();
            for (int h = 0; h < HOLDERS; h++) {
                for (int i = 0; i < FOUR; i++) {
                    trueCounts[tableAt(h, i)]++;
                }
            }
            trueCounts[0] = 0;
        }

        long leakSet() {
            countTrue();
            long set = 0;
            for (int c = 1; c < CLUSTERS; c++) {
                if (counts[c] > trueCounts[c]) {
                    set |= 1L << c;
                }
            }
            return set;
        }

        long lackSet() {
            countTrue();
            long set = 0;
            for (int c = 1; c < CLUSTERS; c++) {
                if (counts[c] < trueCounts[c]) {
                    set |= 1L << c;
                }
            }
            return set;
        }

        long freeSet() {
            long set = 0;
            for (int c = 1; c < CLUSTERS; c++) {
                if (counts[c] == 0) {
                    set |= 1L << c;
                }
            }
            return set;
        }

        long sharedData() {
            countCells();
            long set = 0;
            for (int c = 1; c < CLUSTERS; c++) {
                if (trueCounts[c] > 1) {
                    set |= 1L << c;
                }
            }
            return set;
        }

        int mendCounts() {
            countTrue();
            int changed = 0;
            for (int c = 1; c < CLUSTERS; c++) {
                if (counts[c] != trueCounts[c]) {
                    counts[c] = trueCounts[c];
                    changed++;
                }
            }
            return changed;
        }
    }

    /**
     * A deed gone through, write by write, on an image of its own. Once it has halted no step is
     * done any more, so a deed's lines may run on to their end without harm.
     */
    private static final class Thought {
        final Image image = new Image();
        int kind = FOLD;
        int a = 0;
        int b = 0;
        int c = 0;
        int limit = 0;
        int done = 0;
        /** 0: going on; TORN; FULL. */
        int halt = 0;
        /** The directory that a deed puts away, of which it releases the tables then. */
        final int[] had = new int[FOUR];

        /** The numbers have been tested by then. */
        void set(int deed, int first, int second, int third) {
            kind = deed;
            a = first;
            b = second;
            c = third;
        }

        void start(Image from, int mostWrites) {
            image.copyFrom(from);
            limit = mostWrites;
            done = 0;
            halt = 0;
        }

        /** Whether one more write is to be done; it is counted then. */
        boolean step() {
            if (halt == 0 && done >= limit) {
                halt = TORN;
            }
            if (halt != 0) {
                return false;
            }
            done++;
            return true;
        }

        /** One write to a count, none for cluster 0. */
        void addToCount(int number, int more) {
            if (number != 0 && step()) {
                image.counts[number] += more;
            }
        }

        /** The least cluster with COUNT 0; 0, behind which no step is done. */
        int newCluster() {
            if (halt != 0) {
                return 0;
            }
            for (int n = 1; n < CLUSTERS; n++) {
                if (image.counts[n] == 0) {
                    return n;
                }
            }
            halt = FULL;
            return 0;
        }

        /** The deed that is set, on what is there from now on, stopped behind some writes. */
        void go(Image from, int mostWrites) {
            start(from, mostWrites);
            switch (kind) {
                case WRITE:
                    writePlace(a, b, c);
                    break;
                case SNAP:
                    takeSnapshot(a, image.leastMissingSnapshot());
                    break;
                case DROP:
                    dropSnapshot(a);
                    break;
                case REVERT:
                    revertTo(a);
                    break;
                case GIVE_UP:
                    giveUpBlock(a, b);
                    break;
                case MERGE:
                    mergeDown(a);
                    break;
                case MOVE:
                    moveOnto(a, b, c);
                    break;
                default:
                    foldAlike();
                    break;
            }
        }

        /** TO OWN THE TABLE: its number. None there is cluster 0, whose cells are always 0. */
        int ownTable(int l, int i) {
            int old = image.tableAt(l, i);
            if (old != 0 && image.counts[old] <= 1) {
                return old;
            }
            int n = newCluster();
            if (step()) {
                image.counts[n] = 1;
            }
            if (step()) {
                System.arraycopy(image.cells, old * FOUR, image.cells, n * FOUR, FOUR);
            }
            for (int k = 0; k < FOUR; k++) {
                int data = image.dataAt(old, k);
                if (data != 0 && step()) {
                    image.counts[data]++;
                }
            }
            if (step()) {
                image.directories[l * FOUR + i] = n;
            }
            if (old != 0 && step()) {
                image.counts[old]--;
            }
            return n;
        }

        void noteTables(int holder) {
            System.arraycopy(image.directories, holder * FOUR, had, 0, FOUR);
        }

        void releaseNoted() {
            for (int i = 0; i < FOUR; i++) {
                int table = had[i];
                if (isCluster(table)) {
                    addToCount(table, -1);
                    for (int k = 0; k < FOUR && image.counts[table] == 0; k++) {
                        addToCount(image.dataAt(table, k), -1);
                    }
                }
            }
        }

        /** Writes the places of a layer as they are, in order: how many have room. */
        int rewriteAll(Image from, int l) {
            start(from, NO_LIMIT);
            for (int place = 0; place < PLACES; place++) {
                writePlace(l, place, image.at(l, place));
                if (halt == FULL) {
                    return place;
                }
            }
            return PLACES;
        }

        void writePlace(int l, int place, int v) {
            int block = place / FOUR;
            int table = ownTable(l, block / FOUR);
            int data = image.dataAt(table, block % FOUR);
            if (data == 0 || image.counts[data] > 1) {
                int old = data;
                data = newCluster();
                if (step()) {
                    image.counts[data] = 1;
                }
                // Of an OWN BLOCK what the places are is what the cells of its DATA are.
                boolean fill = step();
                for (int i = 0; i < FOUR && fill; i++) {
                    image.cells[data * FOUR + i] = image.at(l, block * FOUR + i);
                }
                if (step()) {
                    image.cells[table * FOUR + block % FOUR] = data;
                }
                addToCount(old, -1);
            }
            if (step()) {
                image.cells[data * FOUR + place % FOUR] = v;
            }
        }

        void takeSnapshot(int l, int s) {
            if (s < 0 || s >= SNAPSHOTS) {
                return;
            }
            for (int i = 0; i < FOUR; i++) {
                addToCount(image.tableAt(l, i), 1);
            }
            if (step()) {
                image.snapLayers[s] = l;
                System.arraycopy(image.directories, l * FOUR,
                        image.directories, (LAYERS + s) * FOUR, FOUR);
            }
        }

        void dropSnapshot(int s) {
            int holder = LAYERS + s;
            noteTables(holder);
            if (step()) {
                image.snapLayers[s] = NONE;
                Arrays.fill(image.directories, holder * FOUR, (holder + 1) * FOUR, 0);
            }
            releaseNoted();
        }

        void revertTo(int s) {
            int holder = LAYERS + s;
            int l = image.snapLayers[s];
            if (!image.hasLayer(l)) {
                return;
            }
            noteTables(l);
            for (int i = 0; i < FOUR; i++) {
                addToCount(image.tableAt(holder, i), 1);
            }
            if (step()) {
                System.arraycopy(image.directories, holder * FOUR,
                        image.directories, l * FOUR, FOUR);
            }
            releaseNoted();
        }

        void giveUpBlock(int l, int block) {
            int data = image.dataOf(l, block);
            if (data == 0) {
                return;
            }
            int table = ownTable(l, block / FOUR);
            if (step()) {
                image.cells[table * FOUR + block % FOUR] = 0;
            }
            addToCount(data, -1);
        }

        void mergeDown(int l) {
            int backing = image.backings[l];
            if (!image.hasLayer(backing)) {
                return;
            }
            for (int place = 0; place < PLACES; place++) {
                if (image.dataOf(l, place / FOUR) != 0) {
                    writePlace(backing, place, image.at(l, place));
                }
            }
            noteTables(l);
            if (step()) {
                Arrays.fill(image.directories, l * FOUR, (l + 1) * FOUR, 0);
            }
            releaseNoted();
        }

        void moveOnto(int l, int backing, int safe) {
            for (int block = 0; block < BLOCKS && safe == 1; block++) {
                if (image.dataOf(l, block) == 0 && !image.sameBlock(l, backing, block)) {
                    for (int i = 0; i < FOUR; i++) {
                        int place = block * FOUR + i;
                        writePlace(l, place, image.at(l, place));
                    }
                }
            }
            if (step()) {
                image.backings[l] = backing;
            }
        }

        void foldAlike() {
            long tables = image.tablesOf(0, HOLDERS);
            // The least of those alike is never named less, so one look ahead is enough.
            long data = image.dataNamedBy(tables);
            for (int t = 1; t < CLUSTERS; t++) {
                for (int i = 0; i < FOUR && isIn(tables, t); i++) {
                    int d = image.dataAt(t, i);
                    int e = image.leastAlike(data, d);
                    if (e < d) {
                        addToCount(e, 1);
                        if (step()) {
                            image.cells[t * FOUR + i] = e;
                        }
                        addToCount(d, -1);
                    }
                }
            }
        }
    }

    /** The tape: bytes, and a reader that goes over the deeds they tell. */
    private static final class Tape {
        final int[] bytes = new int[MOST_TAPE];
        final int[] numbers = new int[MOST_NUMBERS];
        int length = 0;
        int at = 0;
        int kind = NONE;
        /** How many the text tells, once faultPlace has found no fault in it. */
        int deeds = 0;

        void append(int b) {
            if (length < MOST_TAPE) {
                bytes[length] = b;
                length++;
            }
        }

        /** The byte ahead of the reader, NONE at the end. */
        int ahead() {
            return at >= 0 && at < length && at < MOST_TAPE ? bytes[at] : NONE;
        }

        /** The place of the first byte with which no text goes on, the end's too; NONE: no fault. */
        int faultPlace() {
            at = 0;
            for (deeds = 1; deeds <= MOST_TAPE; deeds++) {
                if (!takeDeed()) {
                    return at;
                }
                if (!takeParting()) {
                    return at < length ? at : NONE;
                }
            }
            return at;
        }

        boolean takeParting() {
            if (ahead() != ';') {
                return false;
            }
            at++;
            return true;
        }

        /** Takes a deed's letter and numbers; false: the reader stands at the fault. */
        boolean takeDeed() {
            int b = ahead();
            kind = b < 0 ? NONE : LETTERS.indexOf((char) b);
            if (kind < 0 || kind >= NUMBERS_OF.length) {
                return false;
            }
            at++;
            Arrays.fill(numbers, 0);
            for (int i = 0; i < NUMBERS_OF[kind] && i < MOST_NUMBERS; i++) {
                if (!takeNumber(i)) {
                    return false;
                }
            }
            return true;
        }

        boolean takeNumber(int i) {
            if (ahead() != ' ') {
                return false;
            }
            at++;
            int digits = 0;
            while (digits < MOST_DIGITS && ahead() >= '0' && ahead() <= '9') {
                numbers[i] = numbers[i] * 10 + ahead() - '0';
                digits++;
                at++;
            }
            return digits > 0;
        }
    }
}
