import java.util.ArrayList;
import java.util.List;
import java.util.function.Supplier;

/** What the tests of single sentences share. Each names its promise and quotes its sentence. */
abstract class Edges {
    static final int NONE = -1;
    static final int BAD = -1001;
    static final int FULL = -1002;
    static final int STATE = -1003;
    static final int ROUND = -1004;
    static final int TORN = -1005;
    static final int LEAST = Integer.MIN_VALUE;
    static final int MOST = Integer.MAX_VALUE;
    private static final int PARTS = 3;

    interface Call {
        long on(TornLayers x);
    }

    interface CallWith {
        int on(TornLayers x, int number);
    }

    private final Doc doc;
    private final Due due;
    private String sentence = "";

    Edges(Doc doc, Due due) {
        this.doc = doc;
        this.due = due;
    }

    abstract void all();

    /** From here on it is this sentence that is tested; 0 stands for the Terms, 38 for What it is. */
    final void says(int promise, String words) {
        sentence = Doc.title(promise) + " \"" + words + "\"";
        due.is(sentence + " stands in the document", doc.name(promise, words) ? 1 : 0, 1);
    }

    final void is(String what, long got, long want) {
        due.is(sentence + ": " + what, got, want);
    }

    /**
     * An answer to a call that changes nothing, but for what refused() tells if it is a refusal:
     * of two objects made alike the one that was called is as the other.
     */
    final void leaves(String what, Supplier<TornLayers> make, Call call, long want) {
        TornLayers called = make.get();
        TornLayers other = make.get();
        is(what, call.on(called), want);
        for (int which = 0; which < 4; which++) {
            int more = want == BAD - which ? 1 : 0;
            is(what + ": refused(" + which + ")", called.refused(which), other.refused(which) + more);
        }
        for (int part = 0; part < PARTS; part++) {
            called = make.get();
            other = make.get();
            call.on(called);
            boolean alike = look(called, part).equals(look(other, part));
            is(what + ": nothing changes, part " + part, alike ? 1 : 0, 1);
        }
    }

    /** In parts, since an object is used for 512 calls at most. */
    private static List<Long> look(TornLayers x, int part) {
        List<Long> seen = new ArrayList<>();
        if (part == 0) {
            lookAtAll(x, seen);
        } else if (part == 1) {
            for (int c = 1; c < 64; c++) {
                for (int what = 2; what <= 5; what++) {
                    seen.add((long) x.cluster(c, what));
                }
            }
        } else {
            seen.add((long) x.tear(-1));
            seen.add((long) x.run());
            seen.add((long) x.count(5));
            seen.add((long) x.again());
            lookAtAll(x, seen);
        }
        return seen;
    }

    private static void lookAtAll(TornLayers x, List<Long> seen) {
        for (int what = 0; what <= 5; what++) {
            seen.add((long) x.count(what));
        }
        for (int l = 0; l < x.count(0); l++) {
            seen.add((long) x.of(l, 0));
            seen.add((long) x.of(l, 1));
            seen.add((long) x.sum(l));
            seen.add(x.holds(l));
        }
        for (int s = 0; s < 8; s++) {
            seen.add(x.holds(10 + s));
            for (int place = 0; place < 64 && (x.count(1) >> s & 1) == 1; place += 7) {
                seen.add((long) x.readOld(s, place));
            }
        }
        for (int what = 0; what <= 3; what++) {
            seen.add(x.all(what));
        }
        for (int c = 1; c < 64; c++) {
            seen.add((long) x.cluster(c, 0));
        }
    }

    /** For each of the bad numbers: refused as BAD, and nothing changes. */
    final void bad(String what, Supplier<TornLayers> make, CallWith call, int... numbers) {
        for (int number : numbers) {
            leaves(what + " " + number, make, x -> call.on(x, number), BAD);
        }
    }

    static TornLayers layers(int... backings) {
        TornLayers x = new TornLayers();
        for (int backing : backings) {
            x.layer(backing);
        }
        return x;
    }

    /** One layer with a table, 1, and one block: the DATA 2. */
    static TornLayers one() {
        TornLayers x = layers(-1);
        x.write(0, 0, 1);
        return x;
    }

    /** One layer with so many of its tables there (1, 3, 5, 7), a block in each (2, 4, 6, 8). */
    static TornLayers tables(int many) {
        TornLayers x = layers(-1);
        for (int i = 0; i < many; i++) {
            x.write(0, 16 * i, 1);
        }
        return x;
    }

    /** One layer with a table, 1, that has so many cells that aren't 0 (2, 3, 4, 5). */
    static TornLayers cells(int many) {
        TornLayers x = layers(-1);
        fillCells(x, many);
        return x;
    }

    static void fillCells(TornLayers x, int many) {
        for (int i = 0; i < many; i++) {
            x.write(0, 4 * i, i + 1);
        }
        if (many == 0) {
            x.write(0, 0, 1);
            x.giveUp(0, 0);
        }
    }

    static void writeAll(TornLayers x, int l, int v) {
        for (int place = 0; place < 64; place++) {
            x.write(l, place, v);
        }
    }

    /** Leaves only so many clusters free, the least of those that are. */
    static void leaveFree(TornLayers x, int free) {
        long set = x.all(2);
        int left = free;
        for (int c = 1; c < 64; c++) {
            if ((set >>> c & 1) == 1) {
                left--;
                if (left < 0) {
                    x.spoil(c, 1);
                }
            }
        }
    }

    /** Makes a LACK: of cluster 1, which a directory must name. */
    static TornLayers lacking(TornLayers x) {
        x.spoil(1, 0);
        return x;
    }

    static TornLayers torn(TornLayers x, int behind) {
        x.tear(behind);
        return x;
    }

    static TornLayers snapped(TornLayers x) {
        x.snap(0);
        return x;
    }

    static TornLayers with(TornLayers x, int free) {
        leaveFree(x, free);
        return x;
    }

    static void say(TornLayers x, String text) {
        for (int i = 0; i < text.length(); i++) {
            x.feed(text.charAt(i), 1);
        }
    }

    static int told(TornLayers x, String text) {
        say(x, text);
        return x.run();
    }

    static long set(int... clusters) {
        long set = 0;
        for (int c : clusters) {
            set |= 1L << c;
        }
        return set;
    }
}
