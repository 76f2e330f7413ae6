/** Promises 26 to 30: what would be. */
final class EdgesOfThoughts extends Edges {
    private static final int[] LEAKS_OF_SHARED = {0, 1, 1, 2, 1, 0, 1, 1, 1, 0, 0};

    EdgesOfThoughts(Doc doc, Due due) {
        super(doc, due);
    }

    @Override
    void all() {
        cost();
        refused(26, "BAD; STATE; FULL.", (x, l, place) -> x.cost(l, place), 1);
        torn();
        tornEnds();
        refused(27, "BAD; STATE; FULL.", (x, l, place) -> x.torn(l, place, 9, 99), 9);
        leaks();
        leaksOfShared();
        refused(28, "BAD; STATE; FULL.", (x, l, place) -> x.leaks(l, place, 99), 0);
        behind();
        behindNone();
        refused(29, "BAD; STATE; FULL.", (x, l, place) -> x.behind(l, place, 9), 1);
        valuesRefused();
        room();
        roomOfShared();
        roomRefused();
    }

    interface AtPlace {
        int on(TornLayers x, int l, int place);
    }

    /** What all that go through a write have in common; "want" is the answer where one write does. */
    private void refused(int promise, String words, AtPlace call, int want) {
        says(promise, words);
        bad("no LAYER", Edges::one, (x, l) -> call.on(x, l, 0), -1, 1, 5, 6, LEAST, MOST);
        bad("no PLACE", Edges::one, (x, place) -> call.on(x, 0, place), -1, 64, LEAST, MOST);
        leaves("the last PLACE of the BLOCK", Edges::one, x -> call.on(x, 0, 3), want);
        leaves("a LACK", () -> lacking(one()), x -> call.on(x, 0, 0), STATE);
        leaves("a LACK, and BAD", () -> lacking(one()), x -> call.on(x, 0, 64), BAD);
        leaves("no room for the TABLE", () -> with(one(), 0), x -> call.on(x, 0, 16), FULL);
        leaves("no room for the DATA", () -> with(one(), 1), x -> call.on(x, 0, 63), FULL);
        leaves("no room for the DATA alone", () -> with(one(), 0), x -> call.on(x, 0, 4), FULL);
        leaves("no room to own the TABLE", () -> with(snapped(one()), 0), x -> call.on(x, 0, 0), FULL);
        leaves("no room, a TEAR", () -> torn(with(one(), 0), 0), x -> call.on(x, 0, 4), FULL);
        // leaks() counts those of the filled-up object, too.
        leaves("none needed", () -> with(one(), 0), x -> call.on(x, 0, 0), promise == 28 ? 61 : want);
        leaves("LACK ahead of FULL", () -> lacking(with(one(), 0)), x -> call.on(x, 0, 16), STATE);
    }

    private void cost() {
        says(26, "How many WRITES write() would do.");
        Call[] made = {x -> x.cost(0, 0), x -> x.cost(0, 63)};
        for (Call call : made) {
            is("nothing there", call.on(layers(-1)), 7);
        }
        is("a TABLE", cells(0).cost(0, 0), 4);
        is("a BLOCK", one().cost(0, 0), 1);
        is("a shared TABLE with none", snapped(cells(0)).cost(0, 0), 8);
        is("a shared TABLE with one", snapped(one()).cost(0, 0), 10);
        is("a shared TABLE with four", snapped(cells(4)).cost(0, 15), 13);
        is("just room", with(layers(-1), 2).cost(0, 0), 7);
        for (int place = 0; place < 64; place += 3) {
            TornLayers x = snapped(cells(3));
            int cost = x.cost(0, place);
            is("as write() does at " + place, x.write(0, place, 1), cost);
        }
        TornLayers y = torn(one(), 0);
        is("the TEAR aside", y.cost(0, 4), 4);
    }

    private static final String TORN_SO = "What the PLACE would be, write() being TORN behind n WRITES (0 to"
            + " 99; done, if it has no more), REPAIRED then.";

    private void torn() {
        says(27, TORN_SO);
        for (int n = 0; n <= 12; n++) {
            is("nothing there, behind " + n, layers(-1).torn(0, 63, 9, n), n < 7 ? 0 : 9);
            is("a TABLE, behind " + n, cells(0).torn(0, 0, 9, n), n < 4 ? 0 : 9);
            is("a BLOCK, behind " + n, one().torn(0, 0, 9, n), n < 1 ? 1 : 9);
            is("both shared, behind " + n, snapped(one()).torn(0, 0, 9, n), n < 10 ? 1 : 9);
            TornLayers x = layers(-1, 0);
            x.write(0, 2, 200);
            is("by the BACKING, behind " + n, x.torn(1, 2, 0, n), n < 7 ? 200 : 0);
        }
        is("the greatest n", snapped(one()).torn(0, 0, 255, 99), 255);
        is("v as it is", one().torn(0, 0, 1, 0), 1);
        TornLayers y = one();
        y.spoil(40, 9);
        is("with a LEAK", y.torn(0, 0, 9, 1), 9);
        is("which isn't REPAIRED in deed", y.cluster(40, 0), 9);
    }

    private void tornEnds() {
        says(27, TORN_SO);
        bad("no n", Edges::one, (x, n) -> x.torn(0, 0, 9, n), -1, 100, LEAST, MOST);
        leaves("the least n", Edges::one, x -> x.torn(0, 0, 9, 0), 1);
        leaves("the greatest n", Edges::one, x -> x.torn(0, 0, 9, 99), 9);
        leaves("no n, ahead of a LACK", () -> lacking(one()), x -> x.torn(0, 0, 9, 100), BAD);
        leaves("no n, ahead of FULL", () -> with(one(), 0), x -> x.torn(0, 4, 9, -1), BAD);
    }

    private static final String LEAKS = "How many CLUSTERS would have a LEAK, write() (of any v) being TORN so,"
            + " not REPAIRED.";

    private void leaks() {
        says(28, LEAKS);
        int[] fresh = {0, 1, 1, 0, 1, 1, 0, 0};
        int[] inTable = {0, 1, 1, 0, 0};
        for (int n = 0; n <= 7; n++) {
            is("nothing there, behind " + n, layers(-1).leaks(0, 63, n), fresh[n]);
            is("a TABLE, behind " + n, cells(0).leaks(0, 0, n), inTable[Math.min(n, 4)]);
            is("a BLOCK, behind " + n, one().leaks(0, 0, n), 0);
        }
        is("done", layers(-1).leaks(0, 0, 99), 0);
        TornLayers x = one();
        x.spoil(63, 1);
        x.spoil(62, 99);
        is("those that are there", x.leaks(0, 0, 0), 2);
        is("and one more", x.leaks(0, 4, 1), 3);
        is("and no more", x.leaks(0, 4, 99), 2);
        bad("no n", Edges::one, (y, n) -> y.leaks(0, 0, n), -1, 100, LEAST, MOST);
        leaves("no n, ahead of a LACK", () -> lacking(one()), y -> y.leaks(0, 0, 100), BAD);
        leaves("no n, ahead of FULL", () -> with(one(), 0), y -> y.leaks(0, 4, -1), BAD);
    }

    private void leaksOfShared() {
        says(28, LEAKS);
        for (int n = 0; n <= 10; n++) {
            is("both shared, behind " + n, snapped(one()).leaks(0, 0, n), LEAKS_OF_SHARED[n]);
            TornLayers x = torn(snapped(one()), n);
            x.write(0, 0, 9);
            is("as in deed", Long.bitCount(x.all(0)), LEAKS_OF_SHARED[n]);
        }
        TornLayers y = one();
        y.spoil(2, 3);
        is("a LEAK that write() lowers", y.leaks(0, 0, 3), 1);
        is("is one still behind it", y.leaks(0, 0, 99), 1);
        y.spoil(2, 2);
        is("a LEAK of one stays one: it is named no more", y.leaks(0, 0, 99), 1);
    }

    private static final String BEHIND = "The least n so that write() of v, TORN so, reads as v (v isn't what"
            + " it is now), NONE: it is v now.";

    private void behind() {
        says(29, BEHIND);
        is("nothing there", layers(-1).behind(0, 0, 1), 7);
        is("the last PLACE, the greatest v", layers(-1).behind(0, 63, 255), 7);
        is("a TABLE", cells(0).behind(0, 0, 9), 4);
        is("a BLOCK", one().behind(0, 0, 0), 1);
        is("both shared", snapped(one()).behind(0, 0, 0), 10);
        is("four, shared", snapped(cells(4)).behind(0, 12, 0), 13);
        TornLayers x = layers(-1, 0);
        x.write(0, 0, 5);
        is("over the BACKING, 0", x.behind(1, 0, 0), 7);
        int n = x.behind(1, 0, 0);
        is("one less isn't it", x.torn(1, 0, 0, n - 1), 5);
        is("it is", x.torn(1, 0, 0, n), 0);
    }

    private void behindNone() {
        says(29, BEHIND);
        leaves("0 where nothing is", () -> layers(-1), x -> x.behind(0, 63, 0), NONE);
        leaves("what it is", Edges::one, x -> x.behind(0, 0, 1), NONE);
        leaves("0 beside it", Edges::one, x -> x.behind(0, 3, 0), NONE);
        TornLayers y = layers(-1, 0);
        y.write(0, 0, 5);
        is("what it is by the BACKING", y.behind(1, 0, 5), NONE);
        leaves("BAD ahead of it", Edges::one, x -> x.behind(0, 64, 0), BAD);
        leaves("STATE ahead of it", () -> lacking(one()), x -> x.behind(0, 0, 1), STATE);
        leaves("FULL ahead of it", () -> with(one(), 0), x -> x.behind(0, 4, 0), FULL);
    }

    private void valuesRefused() {
        says(27, "BAD; STATE; FULL.");
        bad("no v", Edges::one, (x, v) -> x.torn(0, 0, v, 0), -1, 256, LEAST, MOST);
        leaves("the least v", Edges::one, x -> x.torn(0, 0, 0, 1), 0);
        leaves("the greatest v", Edges::one, x -> x.torn(0, 0, 255, 1), 255);
        says(29, "BAD; STATE; FULL.");
        bad("no v", Edges::one, (x, v) -> x.behind(0, 0, v), -1, 256, LEAST, MOST);
        leaves("the least v", Edges::one, x -> x.behind(0, 0, 0), 1);
        leaves("the greatest v", Edges::one, x -> x.behind(0, 0, 255), 1);
    }

    private static final String ROOM = "How many PLACES, written one behind the other from PLACE 0 of a LAYER"
            + " on with what they are, have room.";

    private void room() {
        says(30, ROOM);
        for (int free = 0; free <= 63; free++) {
            int blocks = Math.max(0, free / 5 * 4 + Math.max(0, free % 5 - 1));
            int asked = free;
            leaves("with " + free + " free", () -> with(layers(-1), asked), x -> x.room(0), Math.min(64, 4 * blocks));
        }
        is("all free", layers(-1).room(0), 64);
        TornLayers x = layers(-1, 0);
        writeAll(x, 0, 1);
        leaveFree(x, 0);
        is("none free, none needed", x.room(0), 64);
        is("none free above it", x.room(1), 0);
        is("no FULL", x.refused(1), 0);
        TornLayers y = cells(2);
        y.write(0, 63, 1);
        leaveFree(y, 0);
        is("up to the first that has none, whatever is behind it", y.room(0), 8);
        is("the TEAR aside", torn(y, 0).room(0), 8);
    }

    private void roomOfShared() {
        says(30, ROOM);
        for (int free = 0; free <= 5; free++) {
            TornLayers x = with(snapped(cells(4)), free);
            is("a shared TABLE of four, with " + free + " free", x.room(0), free == 0 ? 0 : 4 * (free - 1));
        }
        TornLayers y = with(cells(1), 0);
        y.spoil(2, 2);
        is("a shared DATA, none free", y.room(0), 0);
        y.spoil(63, 0);
        is("one free", y.room(0), 4);
    }

    private void roomRefused() {
        says(30, "BAD; STATE.");
        bad("no LAYER", Edges::one, (x, l) -> x.room(l), -1, 1, 5, 6, LEAST, MOST);
        leaves("a LACK", () -> lacking(one()), x -> x.room(0), STATE);
        leaves("a LACK, no LAYER", () -> lacking(one()), x -> x.room(1), BAD);
        leaves("the last LAYER", () -> layers(-1, 0, 1, 2, 3, 4), x -> x.room(5), 64);
    }
}
