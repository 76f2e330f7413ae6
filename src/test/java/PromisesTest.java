/** The promises one by one, with answers worked out by hand from the document. */
public final class PromisesTest {
    private static final int BAD = -1001;
    private static final int FULL = -1002;
    private static final int STATE = -1003;
    private static final int ROUND = -1004;
    private static final int TORN = -1005;
    private static final int LEAST = Integer.MIN_VALUE;
    private static final int MOST = Integer.MAX_VALUE;

    private static final Due DUE = new Due();
    private static int promise = 0;

    public static void main(String[] args) {
        promise = 1;
        newObject();
        promise = 2;
        layer();
        promise = 3;
        of();
        ofWrites();
        promise = 4;
        read();
        promise = 5;
        readOld();
        promise = 6;
        unlike();
        promise = 7;
        sum();
        promise = 8;
        writeTornEverywhere();
        writeOverBacking();
        writeSharedTornEverywhere();
        writeSharedData();
        writeRefused();
        promise = 9;
        snap();
        promise = 10;
        drop();
        promise = 11;
        revert();
        promise = 12;
        giveUp();
        promise = 13;
        merge();
        promise = 14;
        move();
        moveRefused();
        promise = 15;
        fold();
        foldOld();
        foldOntoTheFirst();
        promise = 16;
        tear();
        promise = 17;
        cluster();
        promise = 18;
        spoil();
        promise = 19;
        all();
        promise = 20;
        repair();
        promise = 21;
        holds();
        promise = 22;
        alone();
        promise = 23;
        holders();
        promise = 24;
        best();
        promise = 25;
        twins();
        promise = 26;
        cost();
        promise = 27;
        torn();
        promise = 28;
        leaks();
        promise = 29;
        behind();
        promise = 30;
        room();
        promise = 31;
        feed();
        promise = 32;
        wipe();
        promise = 33;
        runDeeds();
        runFaults();
        promise = 34;
        keep();
        promise = 35;
        again();
        promise = 36;
        count();
        promise = 37;
        refused();
        DUE.end();
    }

    private static void due(String call, long got, long want) {
        DUE.is("promise " + promise + ": " + call, got, want);
    }

    private static TornLayers withLayers(int... backings) {
        TornLayers x = new TornLayers();
        for (int i = 0; i < backings.length; i++) {
            due("layer", x.layer(backings[i]), i);
        }
        return x;
    }

    /** Leaves only so many clusters free, the least of those that are. */
    private static void leaveFree(TornLayers x, int free) {
        int left = free;
        for (int c = 1; c < 64; c++) {
            if (x.cluster(c, 0) == 0) {
                left--;
                if (left < 0) {
                    x.spoil(c, 1);
                }
            }
        }
    }

    private static void say(TornLayers x, String text) {
        for (int i = 0; i < text.length(); i++) {
            x.feed(text.charAt(i), 1);
        }
    }

    private static int told(TornLayers x, String text) {
        say(x, text);
        return x.run();
    }

    private static void newObject() {
        TornLayers x = new TornLayers();
        due("NONE", TornLayers.NONE, -1);
        int[] counts = {0, 0, 63, -1, 0, 0};
        for (int what = 0; what < 6; what++) {
            due("count " + what, x.count(what), counts[what]);
        }
        for (int which = 0; which < 4; which++) {
            due("refused " + which, x.refused(which), 0);
        }
        due("no layer", x.read(0, 0), BAD);
        due("no snapshot", x.readOld(0, 0), BAD);
        for (int c = 1; c < 64; c++) {
            for (int what = 0; what < 6; what++) {
                due("cluster " + c, x.cluster(c, what), 0);
            }
        }
    }

    private static void layer() {
        TornLayers x = new TornLayers();
        due("on one not there", x.layer(0), BAD);
        due("on none", x.layer(-1), 0);
        due("below none", x.layer(-2), BAD);
        due("on itself to be", x.layer(1), BAD);
        due("far off", x.layer(MOST), BAD);
        due("far below", x.layer(LEAST), BAD);
        due("on 0", x.layer(0), 1);
        due("on 0 too", x.layer(0), 2);
        due("on 2", x.layer(2), 3);
        due("on none", x.layer(-1), 4);
        due("on 4", x.layer(4), 5);
        due("six", x.count(0), 6);
        due("a seventh", x.layer(-1), FULL);
        due("BAD ahead of FULL", x.layer(6), BAD);
        due("backing of 3", x.of(3, 0), 2);
        due("FULL counted", x.refused(1), 1);
        due("BAD counted", x.refused(0), 6);
    }

    private static void of() {
        TornLayers x = withLayers(-1, 0, 1, 0);
        due("backing none", x.of(0, 0), -1);
        due("backing", x.of(2, 0), 1);
        due("below 0", x.of(0, 3), 0);
        due("below 2", x.of(2, 3), 2);
        due("below 3", x.of(3, 3), 1);
        due("no own", x.of(0, 1), 0);
        x.write(0, 0, 1);
        x.write(0, 63, 1);
        x.write(0, 23, 1);
        due("own 0, 5, 15", x.of(0, 1), 1 + 32 + 32768);
        due("not own above", x.of(1, 1), 0);
        int[][] bad = {{4, 0}, {-1, 0}, {0, 4}, {0, -1}, {MOST, 0}, {0, LEAST}};
        for (int[] b : bad) {
            due("bad", x.of(b[0], b[1]), BAD);
        }
        due("counted", x.refused(0), bad.length);
    }

    private static void ofWrites() {
        TornLayers x = withLayers(-1);
        due("new", x.of(0, 2), 64 + 16 * 3 + 4 * 3);
        x.write(0, 0, 1);
        due("a table and a block less", x.of(0, 2), 124 - 6);
        x.snap(0);
        due("shared", x.of(0, 2), 10 + 3 + 3 * 7 + 3 * 3 + 12 * 7);
        due("in thought only", x.of(0, 1), 1);
        x.tear(0);
        due("the tear aside", x.of(0, 2), 127);
        due("the tear stays", x.count(3), 0);
        x.spoil(1, 1);
        due("refused deeds", x.of(0, 2), -1);
        x.repair();
        leaveFree(x, 19);
        due("a cluster short", x.of(0, 2), -1);
        due("no refusal", x.refused(1) + x.refused(2), 0);
        TornLayers y = withLayers(-1);
        leaveFree(y, 20);
        due("just enough", y.of(0, 2), 124);
    }

    private static void read() {
        TornLayers x = withLayers(-1, 0, 1);
        x.write(0, 5, 200);
        x.write(1, 63, 3);
        due("own", x.read(0, 5), 200);
        due("by two backings", x.read(2, 5), 200);
        due("by one", x.read(2, 63), 3);
        due("not from above", x.read(0, 63), 0);
        due("beside it", x.read(0, 4), 0);
        x.write(2, 4, 0);
        x.write(0, 5, 201);
        due("its own copy", x.read(2, 5), 200);
        due("below", x.read(1, 5), 201);
        int[][] bad = {{3, 0}, {-1, 0}, {0, 64}, {0, -1}, {LEAST, MOST}};
        for (int[] b : bad) {
            due("bad", x.read(b[0], b[1]), BAD);
        }
        TornLayers six = withLayers(-1, 0, 1, 2, 3, 4);
        six.write(0, 34, 77);
        due("by five backings", six.read(5, 34), 77);
        due("below it", six.of(5, 3), 5);
    }

    private static void readOld() {
        TornLayers x = withLayers(-1, 0, -1);
        x.write(0, 0, 7);
        x.write(2, 0, 8);
        x.write(1, 4, 1);
        x.snap(1);
        x.write(1, 4, 2);
        due("as it was", x.readOld(0, 4), 1);
        due("by the backing", x.readOld(0, 0), 7);
        x.move(1, 2, 0);
        due("by the backing it has now", x.readOld(0, 0), 8);
        x.move(1, -1, 0);
        due("by none", x.readOld(0, 0), 0);
        due("own still", x.readOld(0, 4), 1);
        x.write(1, 6, 66);
        x.snap(1);
        x.snap(2);
        x.write(1, 6, 67);
        due("the second's", x.readOld(1, 6), 66);
        due("the first's", x.readOld(0, 6), 0);
        due("the third's", x.readOld(2, 0), 8);
        x.drop(2);
        x.drop(1);
        int[][] bad = {{1, 0}, {-1, 0}, {8, 0}, {0, 64}, {0, -1}, {MOST, 0}, {10, 0}};
        for (int[] b : bad) {
            due("bad", x.readOld(b[0], b[1]), BAD);
        }
        x.drop(0);
        due("no more", x.readOld(0, 4), BAD);
    }

    private static void unlike() {
        TornLayers x = withLayers(-1, 0, -1);
        due("alike", x.unlike(0, 2), -1);
        x.write(0, 63, 1);
        due("at the last", x.unlike(0, 2), 63);
        due("the other way", x.unlike(2, 0), 63);
        due("by the backing", x.unlike(1, 0), -1);
        x.write(2, 9, 1);
        due("the first", x.unlike(0, 2), 9);
        due("itself", x.unlike(2, 2), -1);
        x.write(1, 0, 1);
        due("at the first", x.unlike(0, 1), 0);
        due("bad", x.unlike(3, 0), BAD);
        due("bad", x.unlike(0, 3), BAD);
        due("bad", x.unlike(-1, 0), BAD);
        due("bad", x.unlike(0, -1), BAD);
    }

    private static void sum() {
        TornLayers x = withLayers(-1, 0);
        int[] places = new int[64];
        due("all 0", x.sum(0), java.util.Arrays.hashCode(places));
        places[0] = 255;
        places[33] = 17;
        places[63] = 128;
        x.write(0, 0, 255);
        x.write(1, 33, 17);
        x.write(0, 63, 128);
        due("some", x.sum(1), java.util.Arrays.hashCode(places));
        due("bad", x.sum(2), BAD);
        due("bad", x.sum(-1), BAD);
        due("counted", x.refused(0), 2);
    }

    private static void writeTornEverywhere() {
        long[] leaks = {0, 2, 2, 0, 4, 4, 0, 0};
        long[] holds = {0, 0, 0, 2, 2, 2, 6, 6};
        for (int n = 0; n <= 7; n++) {
            TornLayers x = withLayers(-1);
            x.tear(n);
            due("torn behind " + n, x.write(0, 5, 9), n == 7 ? 7 : TORN);
            due("reads", x.read(0, 5), n == 7 ? 9 : 0);
            due("leaks", x.all(0), leaks[n]);
            due("no lack", x.all(1), 0);
            due("holds", x.holds(0), holds[n]);
            due("names the data", x.cluster(1, 3), n >= 6 ? 2 : 0);
            due("no tear more", x.count(3), -1);
            due("writes ever", x.count(5), n);
            due("repaired", x.repair(), Long.bitCount(leaks[n]));
            due("goes on", x.write(0, 5, 9), holds[n] == 0 ? 7 : holds[n] == 2 ? 4 : 1);
        }
    }

    private static void writeOverBacking() {
        int[] below = {10, 20, 30, 40};
        for (int n = 3; n <= 7; n++) {
            TornLayers x = withLayers(-1, 0);
            for (int i = 0; i < 4; i++) {
                x.write(0, 4 + i, below[i]);
            }
            x.tear(n);
            x.write(1, 6, 99);
            for (int i = 0; i < 4; i++) {
                int copied = n >= 5 ? below[i] : 0;
                due("cells behind " + n, x.cluster(4, 2 + i), n == 7 && i == 2 ? 99 : copied);
                due("reads", x.read(1, 4 + i), n == 7 && i == 2 ? 99 : below[i]);
                due("below", x.read(0, 4 + i), below[i]);
            }
        }
    }

    private static TornLayers snapped() {
        TornLayers x = withLayers(-1);
        x.write(0, 0, 1);
        x.write(0, 4, 2);
        x.snap(0);
        return x;
    }

    private static final long[] LEAKS_OF_SHARED = {0, 16, 16, 20, 28, 2, 0, 32, 32, 4, 0, 0};

    private static void writeSharedTornEverywhere() {
        for (int n = 0; n <= 11; n++) {
            TornLayers x = snapped();
            x.tear(n);
            due("torn behind " + n, x.write(0, 0, 7), n == 11 ? 11 : TORN);
            due("reads", x.read(0, 0), n == 11 ? 7 : 1);
            due("the other block", x.read(0, 4), 2);
            due("old", x.readOld(0, 0), 1);
            due("leaks", x.all(0), LEAKS_OF_SHARED[n]);
            due("no lack", x.all(1), 0);
            due("count of table", x.cluster(1, 0), n >= 6 ? 1 : 2);
            due("the new table's cells", x.cluster(4, 3), n >= 2 ? 3 : 0);
            due("the new data's cells", x.cluster(5, 2), n == 11 ? 7 : n >= 8 ? 1 : 0);
        }
    }

    private static void writeSharedData() {
        TornLayers x = withLayers(-1);
        x.write(0, 0, 5);
        x.write(0, 4, 5);
        x.fold();
        due("count of both", x.cluster(2, 0), 2);
        due("written apart", x.write(0, 4, 6), 5);
        due("reads", x.read(0, 0) * 256 + x.read(0, 4), 5 * 256 + 6);
        due("count of one", x.cluster(2, 0), 1);
        due("then in place", x.write(0, 4, 5), 1);
        due("the same again", x.write(0, 4, 5), 1);
        x.spoil(2, 9);
        due("a leak counts as shared", x.write(0, 1, 1), 5);
        due("and is lowered", x.cluster(2, 0), 8);
    }

    private static void writeRefused() {
        TornLayers x = withLayers(-1);
        int[][] bad = {{1, 0, 0}, {-1, 0, 0}, {0, 64, 0}, {0, -1, 0}, {0, 0, 256}, {0, 0, -1},
            {MOST, MOST, MOST}, {LEAST, LEAST, LEAST}};
        for (int[] b : bad) {
            due("bad", x.write(b[0], b[1], b[2]), BAD);
        }
        due("the greatest byte", x.write(0, 63, 255), 7);
        leaveFree(x, 1);
        due("a table, but no data", x.write(0, 0, 1), FULL);
        due("nothing changed", x.count(2), 1);
        due("room for data alone", x.write(0, 48, 1), 4);
        due("no room needed", x.write(0, 48, 2), 1);
        due("none free", x.write(0, 52, 2), FULL);
        x.tear(1);
        due("asked ahead of the tear", x.write(0, 0, 1), FULL);
        due("a refused one leaves it", x.count(3), 1);
        x.spoil(1, 0);
        due("STATE ahead of FULL", x.write(0, 0, 1), STATE);
        due("BAD ahead of STATE", x.write(0, 64, 1), BAD);
        due("BAD counted", x.refused(0), bad.length + 1);
        due("FULL counted", x.refused(1), 3);
        due("STATE counted", x.refused(2), 1);
        due("writes ever", x.count(5), 12);
    }

    private static TornLayers twoTables() {
        TornLayers x = withLayers(-1);
        x.write(0, 0, 1);
        x.write(0, 16, 2);
        return x;
    }

    private static void snap() {
        TornLayers x = withLayers(-1);
        due("of an empty one", x.snap(0), 1);
        due("not there", x.snap(1), BAD);
        due("below", x.snap(-1), BAD);
        for (int s = 1; s < 8; s++) {
            due("snap", x.snap(0), 1);
            due("set", x.count(1), (2 << s) - 1);
        }
        due("no ninth", x.snap(0), STATE);
        due("BAD ahead of it", x.snap(1), BAD);
        due("drop", x.drop(3), 1);
        x.drop(5);
        due("the least", x.snap(0), 1);
        due("set", x.count(1), 255 - 32);
        long[] leaks = {0, 2, 10, 0};
        for (int n = 0; n <= 3; n++) {
            TornLayers y = twoTables();
            y.tear(n);
            due("torn behind " + n, y.snap(0), n == 3 ? 3 : TORN);
            due("leaks", y.all(0), leaks[n]);
            due("there", y.count(1), n == 3 ? 1 : 0);
        }
        TornLayers z = twoTables();
        z.spoil(3, 0);
        due("a lack", z.snap(0), STATE);
        z.repair();
        due("none more", z.snap(0), 3);
    }

    /** Layer 0 written apart from its snapshot in one of two tables. */
    private static TornLayers writtenApart() {
        TornLayers x = twoTables();
        x.snap(0);
        due("written apart", x.write(0, 0, 5), 10);
        return x;
    }

    private static void drop() {
        long[] leaks = {0, 14, 12, 8, 0};
        for (int n = 0; n <= 4; n++) {
            TornLayers x = writtenApart();
            x.tear(n);
            due("torn behind " + n, x.drop(0), n == 4 ? 4 : TORN);
            due("leaks", x.all(0), leaks[n]);
            due("no lack", x.all(1), 0);
            due("there", x.count(1), n == 0 ? 1 : 0);
            due("reads", x.read(0, 0) * 256 + x.read(0, 16), 5 * 256 + 2);
        }
        TornLayers y = twoTables();
        int[] bad = {0, -1, 8, 7, MOST};
        for (int s : bad) {
            due("bad", y.drop(s), BAD);
        }
        y.snap(0);
        due("all shared", y.drop(0), 3);
        y.snap(0);
        y.spoil(1, 1);
        due("a lack", y.drop(0), STATE);
        due("BAD ahead of it", y.drop(1), BAD);
    }

    private static void revert() {
        long[] leaks = {0, 2, 10, 104, 72, 8, 0};
        for (int n = 0; n <= 6; n++) {
            TornLayers x = writtenApart();
            x.tear(n);
            due("torn behind " + n, x.revert(0), n == 6 ? 6 : TORN);
            due("leaks", x.all(0), leaks[n]);
            due("no lack", x.all(1), 0);
            due("reads", x.read(0, 0), n >= 3 ? 1 : 5);
            due("old", x.readOld(0, 0), 1);
            due("there still", x.count(1), 1);
        }
        TornLayers y = withLayers(-1, -1);
        y.write(1, 0, 3);
        y.snap(1);
        y.write(0, 0, 4);
        y.write(1, 0, 5);
        due("its own layer", y.revert(0), 4);
        due("reads", y.read(1, 0), 3);
        due("the other one", y.read(0, 0), 4);
        y.write(1, 0, 6);
        y.snap(1);
        y.write(1, 0, 7);
        due("the second one", y.revert(1), 4);
        due("reads", y.read(1, 0), 6);
        due("the first again", y.revert(0), 3);
        due("reads", y.read(1, 0), 3);
        y.drop(1);
        due("bad", y.revert(1), BAD);
        due("bad", y.revert(-1), BAD);
        due("bad", y.revert(8), BAD);
        y.spoil(1, 0);
        due("a lack", y.revert(0), STATE);
    }

    private static void giveUp() {
        TornLayers x = withLayers(-1, 0);
        x.write(0, 0, 1);
        x.write(1, 0, 9);
        due("its own table", x.giveUp(1, 0), 2);
        due("reads", x.read(1, 0), 1);
        due("the table stays", x.holds(1), 8);
        due("the data is free", x.cluster(4, 0), 0);
        x.tear(0);
        due("not own", x.giveUp(1, 0), 0);
        due("the tear is no more", x.count(3), -1);
        x.snap(0);
        due("a shared table", x.giveUp(0, 0), 7);
        due("old", x.readOld(0, 0), 1);
        due("reads", x.read(1, 0), 0);
        int[][] bad = {{2, 0}, {-1, 0}, {0, 16}, {0, -1}};
        for (int[] b : bad) {
            due("bad", x.giveUp(b[0], b[1]), BAD);
        }
        TornLayers y = snapped();
        leaveFree(y, 0);
        due("no room for the table", y.giveUp(0, 0), FULL);
        due("the last block, not own", y.giveUp(0, 15), 0);
        y.spoil(1, 1);
        due("STATE ahead of FULL", y.giveUp(0, 0), STATE);
        due("not own, but a lack", y.giveUp(0, 15), STATE);
        long[] leaks = {0, 16, 16, 20, 28, 2, 0, 4, 0};
        for (int n = 0; n <= 8; n++) {
            TornLayers z = snapped();
            z.tear(n);
            due("torn behind " + n, z.giveUp(0, 0), n == 8 ? 8 : TORN);
            due("leaks", z.all(0), leaks[n]);
            due("reads", z.read(0, 0), n >= 7 ? 0 : 1);
        }
    }

    private static void merge() {
        for (int n = 0; n <= 13; n++) {
            TornLayers x = withLayers(-1, 0);
            x.write(1, 5, 7);
            x.tear(n);
            due("torn behind " + n, x.merge(1), n == 13 ? 13 : TORN);
            due("above", x.read(1, 5), 7);
            due("below", x.read(0, 5), n >= 8 ? 7 : 0);
            due("own", x.of(1, 1), n >= 11 ? 0 : 2);
            due("no lack", x.all(1), 0);
            due("leaks", x.all(0), new long[] {0, 8, 8, 0, 16, 16, 0, 0, 0, 0, 0, 6, 4, 0}[n]);
        }
        TornLayers z = withLayers(-1, 0, 1);
        z.write(1, 0, 7);
        z.write(2, 0, 8);
        due("from the first place on", z.merge(1), 13);
        due("below", z.read(0, 0), 7);
        due("the one above stays", z.read(2, 0), 8);
        due("one step alone", z.merge(2), 13);
        due("so 0 stays", z.read(0, 0) * 256 + z.read(1, 0), 7 * 256 + 8);
        TornLayers y = withLayers(-1, 0);
        due("nothing own", y.merge(1), 1);
        due("no backing", y.merge(0), STATE);
        due("bad", y.merge(2), BAD);
        due("bad", y.merge(-1), BAD);
        y.write(1, 0, 1);
        y.write(1, 63, 2);
        leaveFree(y, 3);
        due("three clusters where four are wanted", y.merge(1), FULL);
        due("nothing changed", y.of(0, 1), 0);
        y.spoil(1, 0);
        due("STATE ahead of FULL", y.merge(1), STATE);
        due("refused", y.refused(2), 2);
    }

    private static void move() {
        for (int n = 0; n <= 11; n++) {
            TornLayers x = withLayers(-1, 0, -1);
            x.write(0, 5, 7);
            x.tear(n);
            due("torn behind " + n, x.move(1, 2, 1), n == 11 ? 11 : TORN);
            due("reads", x.read(1, 5), 7);
            due("backing", x.of(1, 0), n == 11 ? 2 : 0);
            due("own", x.of(1, 1), n >= 6 ? 2 : 0);
        }
        TornLayers x = withLayers(-1, 0, -1);
        x.write(0, 5, 7);
        due("unsafely", x.move(1, 2, 0), 1);
        due("reads the new one", x.read(1, 5), 0);
        due("back, where it would change", x.move(1, 0, 1), 11);
        due("keeps what it was", x.read(1, 5), 0);
        due("onto none", x.move(1, -1, 1), 1);
        due("backing", x.of(1, 0), -1);
        x.write(2, 5, 7);
        due("0 onto 2, all own or the same", x.move(0, 2, 1), 1);
        due("a block of 2 that is the same in none", x.move(2, -1, 1), 1);
        TornLayers y = withLayers(-1, -1, 0);
        y.write(0, 0, 3);
        y.write(1, 0, 3);
        due("the same in the new one", y.move(2, 1, 1), 1);
        due("so not own", y.of(2, 1), 0);
        y.write(1, 3, 1);
        due("one place of four", y.move(2, 0, 1), 11);
        due("reads", y.read(2, 3), 1);
    }

    private static void moveRefused() {
        TornLayers x = withLayers(-1, 0, 1, -1);
        due("itself", x.move(0, 0, 1), ROUND);
        due("one on it", x.move(0, 1, 0), ROUND);
        due("one on one on it", x.move(0, 2, 0), ROUND);
        TornLayers six = withLayers(-1, 0, 1, 2, 3, 4);
        due("by five backings", six.move(0, 5, 1), ROUND);
        due("not by four of them", six.move(1, 0, 1), 1);
        due("the other way", x.move(2, 0, 0), 1);
        int[][] bad = {{4, 0, 0}, {-1, 0, 0}, {0, 4, 0}, {0, -2, 0}, {1, 0, 2}, {1, 0, -1}};
        for (int[] b : bad) {
            due("bad", x.move(b[0], b[1], b[2]), BAD);
        }
        due("BAD ahead of ROUND", x.move(0, 0, 2), BAD);
        x.write(0, 0, 1);
        leaveFree(x, 1);
        due("no room", x.move(1, 3, 1), FULL);
        due("as it was", x.of(1, 0), 0);
        due("ROUND ahead of FULL", x.move(0, 1, 1), ROUND);
        due("unsafely there is", x.move(1, 3, 0), 1);
        x.spoil(1, 0);
        due("STATE ahead of ROUND", x.move(0, 0, 1), STATE);
        due("ROUND counted", x.refused(3), 4);
        due("BAD counted", x.refused(0), 7);
    }

    private static void fold() {
        long[] leaks = {0, 4, 8, 0, 4, 16, 0};
        for (int n = 0; n <= 6; n++) {
            TornLayers x = withLayers(-1);
            x.write(0, 0, 5);
            x.write(0, 4, 5);
            x.write(0, 12, 5);
            x.tear(n);
            due("torn behind " + n, x.fold(), n == 6 ? 6 : TORN);
            due("leaks", x.all(0), leaks[n]);
            due("no lack", x.all(1), 0);
            due("reads", x.read(0, 0) + x.read(0, 4) + x.read(0, 12), 15);
            due("count", x.cluster(2, 0), n == 0 ? 1 : n < 4 ? 2 : 3);
            x.repair();
            x.fold();
            due("folded", x.all(3), 4);
            due("nothing more", x.fold(), 0);
            due("free", x.count(2), 61);
        }
        TornLayers y = new TornLayers();
        due("of nothing", y.fold(), 0);
        y.layer(-1);
        y.write(0, 0, 1);
        y.spoil(2, 0);
        due("a lack", y.fold(), STATE);
    }

    /** The least clusters come free by a merge and are DATA then. */
    private static void foldOntoTheFirst() {
        TornLayers x = withLayers(-1, 0);
        x.write(1, 0, 1);
        x.merge(1);
        x.write(0, 4, 1);
        x.write(0, 8, 1);
        due("twins", x.twins(), 3);
        due("onto cluster 1", x.fold(), 6);
        due("shared", x.all(3), 2);
        due("its count", x.cluster(1, 0), 3);
        due("free", x.count(2), 61);
    }

    private static void foldOld() {
        TornLayers x = withLayers(-1, -1);
        x.write(0, 0, 5);
        x.snap(0);
        x.write(0, 0, 6);
        due("none alike", x.fold(), 0);
        x.write(0, 0, 5);
        x.write(1, 8, 5);
        due("the layer's and the other's onto the snapshot's", x.fold(), 6);
        due("all three", x.holders(2), 1 + 2 + 1024);
        x.write(1, 8, 6);
        due("apart", x.readOld(0, 0) * 256 + x.read(1, 8), 5 * 256 + 6);
        x.drop(0);
        due("0 alone", x.holders(2), 1);
        due("nothing leaks", x.all(0), 0);
    }

    private static void tear() {
        TornLayers x = withLayers(-1);
        int[][] sets = {{5, -1}, {7, 5}, {-1, 7}, {0, -1}, {999, 0}, {1000, BAD}, {-2, BAD},
            {LEAST, BAD}, {MOST, BAD}};
        for (int[] s : sets) {
            due("tear " + s[0], x.tear(s[0]), s[1]);
        }
        due("refused ones set none", x.count(3), 999);
        due("not reached", x.write(0, 0, 1), 7);
        due("no more", x.count(3), -1);
        x.tear(2);
        due("a refused deed", x.write(0, 64, 1), BAD);
        due("none to fold back", x.drop(0), BAD);
        x.layer(0);
        x.repair();
        x.spoil(9, 0);
        due("no deeds", x.count(3), 2);
        due("torn", x.write(1, 0, 1), TORN);
        due("TORN is no refusal", x.refused(0) + x.refused(1) + x.refused(2) + x.refused(3), 6);
        due("the next one isn't", x.write(1, 0, 1), 7);
        x.tear(0);
        due("at once", x.snap(0), TORN);
        due("nothing written", x.count(1), 0);
    }

    private static void cluster() {
        TornLayers x = withLayers(-1);
        for (int i = 0; i < 4; i++) {
            x.write(0, 8 + i, 50 + i);
        }
        due("count", x.cluster(1, 0), 1);
        x.snap(0);
        due("count", x.cluster(1, 0), 2);
        due("true", x.cluster(1, 1), 2);
        due("true of data", x.cluster(2, 1), 1);
        x.spoil(2, 7);
        due("count", x.cluster(2, 0), 7);
        due("true still", x.cluster(2, 1), 1);
        for (int i = 0; i < 4; i++) {
            due("table", x.cluster(1, 2 + i), i == 2 ? 2 : 0);
            due("data", x.cluster(2, 2 + i), 50 + i);
        }
        int[][] bad = {{0, 0}, {64, 0}, {1, 6}, {1, -1}, {LEAST, 0}, {1, MOST}};
        for (int[] b : bad) {
            due("bad", x.cluster(b[0], b[1]), BAD);
        }
        due("counted", x.refused(0), bad.length);
        due("the last one", x.cluster(63, 0), 0);
    }

    private static void spoil() {
        TornLayers x = withLayers(-1);
        due("was", x.spoil(63, 99), 0);
        due("was", x.spoil(63, 0), 99);
        int[][] bad = {{0, 1}, {64, 1}, {1, 100}, {1, -1}, {-5, 5}};
        for (int[] b : bad) {
            due("bad", x.spoil(b[0], b[1]), BAD);
        }
        due("nothing changed", x.count(2), 63);
        x.spoil(1, 1);
        x.write(0, 0, 1);
        due("a free one passed over", x.holds(0), 4 + 8);
    }

    private static void all() {
        TornLayers x = withLayers(-1);
        due("free", x.all(2), -2L);
        x.write(0, 0, 5);
        x.write(0, 4, 5);
        due("free", x.all(2), -16L);
        x.spoil(63, 2);
        x.spoil(2, 0);
        due("leak", x.all(0), Long.MIN_VALUE);
        due("lack", x.all(1), 4);
        due("free by count", x.all(2), (-16L | 4) & MOST_SET);
        x.repair();
        due("none shared", x.all(3), 0);
        x.fold();
        due("shared in one table", x.all(3), 4);
        x.snap(0);
        due("a shared table is no data, and counts once", x.all(3), 4);
        x.write(0, 8, 1);
        due("two tables", x.all(3), 4);
        x.giveUp(0, 0);
        x.giveUp(0, 1);
        x.drop(0);
        due("no more", x.all(3), 0);
        due("another", x.all(4), 0);
        due("another", x.all(-1), 0);
        due("another", x.all(LEAST), 0);
        due("nothing refused", x.refused(0), 0);
    }

    private static final long MOST_SET = Long.MAX_VALUE;

    private static void repair() {
        TornLayers x = writtenApart();
        due("nothing to do", x.repair(), 0);
        x.spoil(1, 0);
        x.spoil(2, 9);
        x.spoil(40, 1);
        x.spoil(3, 2);
        due("lacks and leaks", x.repair(), 3);
        due("1", x.cluster(1, 0), 1);
        due("2", x.cluster(2, 0), 1);
        due("3", x.cluster(3, 0), 2);
        due("40", x.cluster(40, 0), 0);
        due("deeds again", x.write(0, 0, 5), 1);
        due("no writes", x.count(5), 7 + 7 + 3 + 10 + 1);
    }

    private static void holds() {
        TornLayers x = writtenApart();
        due("layer: tables 5 and 3, data 6 and 4", x.holds(0), 32 + 8 + 64 + 16);
        due("snapshot: tables 1 and 3, data 2 and 4", x.holds(10), 2 + 8 + 4 + 16);
        int[] none = {1, 5, 6, 9, 11, 17, 18, -1, LEAST, MOST};
        for (int who : none) {
            due("none such", x.holds(who), 0);
        }
        due("nothing refused", x.refused(0), 0);
        x.drop(0);
        due("no more", x.holds(10), 0);
        for (int i = 0; i < 6; i++) {
            x.spoil(i + 1, 9);
        }
        leaveFree(x, 0);
        x.spoil(63, 0);
        x.spoil(62, 0);
        x.layer(-1);
        x.write(1, 0, 1);
        due("the last bit", x.holds(1), 3L << 62);
    }

    private static void alone() {
        TornLayers x = writtenApart();
        due("layer", x.alone(0), 32 + 64);
        due("snapshot", x.alone(10), 2 + 4);
        x.layer(0);
        due("an empty one", x.alone(1), 0);
        x.snap(0);
        due("shared with the second", x.alone(0), 0);
        due("the second", x.alone(11), 0);
        due("the first still", x.alone(10), 2 + 4);
        due("none such", x.alone(6), 0);
        due("none such", x.alone(17), 0);
        due("none such", x.alone(-1), 0);
        due("none such", x.alone(MOST), 0);
        due("nothing refused", x.refused(0), 0);
    }

    private static void holders() {
        TornLayers x = writtenApart();
        int[] want = {1 << 10, 1 << 10, 1 | 1 << 10, 1 | 1 << 10, 1, 1, 0};
        for (int c = 1; c <= 7; c++) {
            due("of " + c, x.holders(c), want[c - 1]);
        }
        for (int i = 0; i < 5; i++) {
            x.layer(-1);
        }
        x.write(5, 0, 1);
        due("layer 5", x.holders(7), 32);
        for (int i = 0; i < 7; i++) {
            x.snap(5);
        }
        due("with seven snapshots", x.holders(7), 32 | 127 << 11);
        due("bad", x.holders(0), BAD);
        due("bad", x.holders(64), BAD);
        due("bad", x.holders(-1), BAD);
        due("none", x.holders(63), 0);
    }

    private static void best() {
        TornLayers x = twoTables();
        due("none there", x.best(0), -1);
        due("none there", x.best(1), -1);
        due("bad", x.best(2), BAD);
        due("bad", x.best(-1), BAD);
        x.snap(0);
        x.snap(0);
        due("none frees any: the least", x.best(0), 0);
        due("how many", x.best(1), 0);
        x.write(0, 0, 5);
        due("each holds the table still", x.best(1), 0);
        x.snap(0);
        x.write(0, 0, 6);
        due("the third alone", x.best(0), 2);
        due("its table and data", x.best(1), 2);
        x.drop(0);
        due("now as good as the second", x.best(0), 1);
        due("how many", x.best(1), 2);
        x.write(0, 16, 9);
        x.drop(1);
        due("two tables, two data", x.best(1), 4);
        due("nothing dropped", x.count(1), 4);
        x.tear(0);
        due("the tear aside", x.best(0), 2);
        due("it stays", x.count(3), 0);
        x.spoil(1, 0);
        x.spoil(x.cluster(3, 0) > 0 ? 3 : 1, 0);
        due("a lack", x.best(0), -1);
        due("a lack", x.best(1), -1);
        due("no STATE", x.refused(2), 0);
        TornLayers y = twoTables();
        y.snap(0);
        y.write(0, 0, 5);
        y.spoil(2, 2);
        due("a leak doesn't come free", y.best(1), 1);
    }

    private static void twins() {
        TornLayers x = withLayers(-1, -1);
        due("none", x.twins(), 0);
        x.write(0, 0, 5);
        x.write(0, 4, 5);
        due("one pair", x.twins(), 1);
        x.write(1, 60, 5);
        due("three", x.twins(), 3);
        x.write(1, 0, 0);
        x.write(0, 32, 0);
        due("all 0, too", x.twins(), 4);
        x.snap(0);
        due("shared ones count once", x.twins(), 4);
        x.write(0, 0, 6);
        due("the snapshot's count", x.twins(), 4);
        x.drop(0);
        due("no more", x.twins(), 2);
        x.fold();
        due("folded", x.twins(), 0);
    }

    private static void cost() {
        TornLayers x = withLayers(-1, 0);
        due("new table, new data", x.cost(0, 0), 7);
        x.write(0, 0, 1);
        due("new data", x.cost(0, 4), 4);
        due("in place", x.cost(0, 3), 1);
        due("above", x.cost(1, 3), 7);
        x.snap(0);
        due("both shared", x.cost(0, 0), 10);
        due("table shared", x.cost(0, 4), 5 + 4);
        x.tear(0);
        due("the tear aside", x.cost(0, 0), 10);
        due("it stays", x.count(3), 0);
        due("nothing done", x.count(5), 7 + 2);
        int[][] bad = {{2, 0}, {-1, 0}, {0, 64}, {0, -1}};
        for (int[] b : bad) {
            due("bad", x.cost(b[0], b[1]), BAD);
        }
        leaveFree(x, 1);
        due("no room", x.cost(0, 0), FULL);
        x.spoil(1, 0);
        due("a lack", x.cost(0, 0), STATE);
        due("counted", x.refused(0) * 100 + x.refused(1) * 10 + x.refused(2), 411);
    }

    private static void torn() {
        TornLayers x = snapped();
        for (int n = 0; n <= 12; n++) {
            due("behind " + n, x.torn(0, 0, 7, n), n >= 11 ? 7 : 1);
        }
        due("done", x.torn(0, 0, 7, 99), 7);
        x.tear(3);
        due("the tear aside", x.torn(0, 0, 7, 99), 7);
        due("it stays", x.count(3), 3);
        due("nothing changed", x.read(0, 0) + x.cluster(4, 0), 1);
        int[][] bad = {{1, 0, 0, 0}, {-1, 0, 0, 0}, {0, 64, 0, 0}, {0, -1, 0, 0}, {0, 0, 256, 0},
            {0, 0, -1, 0}, {0, 0, 0, 100}, {0, 0, 0, -1}};
        for (int[] b : bad) {
            due("bad", x.torn(b[0], b[1], b[2], b[3]), BAD);
        }
        due("each counted once", x.refused(0), bad.length);
        leaveFree(x, 1);
        due("no room, however early", x.torn(0, 0, 7, 0), FULL);
        x.spoil(1, 0);
        due("a lack", x.torn(0, 0, 7, 0), STATE);
    }

    private static void leaks() {
        TornLayers x = snapped();
        for (int n = 0; n <= 11; n++) {
            due("behind " + n, x.leaks(0, 0, n), Long.bitCount(LEAKS_OF_SHARED[n]));
        }
        due("done", x.leaks(0, 0, 99), 0);
        x.spoil(60, 1);
        due("one that was there ahead", x.leaks(0, 0, 0), 1);
        due("with those that come", x.leaks(0, 0, 4), 4);
        int[][] bad = {{1, 0, 0}, {-1, 0, 0}, {0, 64, 0}, {0, -1, 0}, {0, 0, 100}, {0, 0, -1}};
        for (int[] b : bad) {
            due("bad", x.leaks(b[0], b[1], b[2]), BAD);
        }
        due("each counted once", x.refused(0), bad.length);
        leaveFree(x, 1);
        due("no room", x.leaks(0, 0, 0), FULL);
        x.spoil(1, 0);
        due("a lack", x.leaks(0, 0, 0), STATE);
    }

    private static void behind() {
        TornLayers x = snapped();
        due("the last write", x.behind(0, 0, 7), 11);
        due("it is so now", x.behind(0, 0, 1), -1);
        due("0 where it is 0", x.behind(0, 63, 0), -1);
        due("new", x.behind(0, 63, 1), 7);
        x.tear(2);
        due("the tear aside", x.behind(0, 63, 1), 7);
        due("nothing changed", x.count(5), 7 + 4 + 2);
        int[][] bad = {{1, 0, 0}, {-1, 0, 0}, {0, 64, 0}, {0, -1, 0}, {0, 0, 256}, {0, 0, -1}};
        for (int[] b : bad) {
            due("bad", x.behind(b[0], b[1], b[2]), BAD);
        }
        leaveFree(x, 1);
        due("no room", x.behind(0, 0, 7), FULL);
        x.spoil(1, 0);
        due("a lack", x.behind(0, 0, 7), STATE);
    }

    private static void room() {
        int[][] want = {{0, 0}, {1, 0}, {2, 4}, {3, 8}, {5, 16}, {6, 16}, {7, 20}, {19, 60},
            {20, 64}, {63, 64}};
        for (int[] w : want) {
            TornLayers x = withLayers(-1);
            leaveFree(x, w[0]);
            due("with " + w[0] + " free", x.room(0), w[1]);
            due("nothing changed", x.count(2), w[0]);
        }
        TornLayers x = withLayers(-1, 0);
        x.write(0, 0, 1);
        x.write(0, 60, 1);
        leaveFree(x, 0);
        due("to the first that has none", x.room(0), 4);
        due("above", x.room(1), 0);
        due("no FULL", x.refused(1), 0);
        due("bad", x.room(2), BAD);
        due("bad", x.room(-1), BAD);
        x.spoil(1, 0);
        due("a lack", x.room(0), STATE);
        due("BAD ahead of it", x.room(2), BAD);
    }

    private static void feed() {
        TornLayers x = new TornLayers();
        due("one", x.feed('q', 1), 1);
        due("none", x.feed(0, 0), BAD);
        due("nine", x.feed(0, 9), BAD);
        due("below", x.feed(0, -1), BAD);
        due("far", x.feed(0, MOST), BAD);
        due("the lowest ones", x.feed(0x1122334455667766L, 2), 3);
        x.wipe();
        for (int i = 1; i <= 14; i++) {
            due("eights", x.feed(-1L, 8), 8 * i);
        }
        due("seven", x.feed(-1L, 7), 119);
        due("two more", x.feed(-1L, 2), FULL);
        due("nothing of it came", x.count(4), 119);
        due("one more", x.feed(-1L, 1), 120);
        due("no more", x.feed(-1L, 1), FULL);
        due("BAD ahead of FULL", x.feed(-1L, 9), BAD);
        due("counted", x.refused(0) * 10 + x.refused(1), 52);
        TornLayers y = withLayers(-1);
        y.feed(0x3132203020303020L << 8 | 'w', 2);
        y.feed(0x20302030L, 4);
        due("the lowest first", y.feed(0x37L, 1), 7);
        due("w 0 0 7", y.run(), 1);
        due("reads", y.read(0, 0), 7);
    }

    private static void wipe() {
        TornLayers x = withLayers(-1);
        due("empty", x.wipe(), 0);
        say(x, "s 0");
        due("three", x.wipe(), 3);
        due("empty then", x.count(4), 0);
        due("and told no more", told(x, "s 0;s 0"), 2);
        due("two alone", x.count(1), 3);
    }

    private static void runDeeds() {
        TornLayers x = withLayers(-1, 0);
        due("write", told(x, "w 0 5 200"), 1);
        due("reads", x.read(0, 5), 200);
        due("empty then", x.count(4), 0);
        due("zeros ahead", told(x, "w 000 005 021"), 1);
        due("reads", x.read(0, 5), 21);
        due("snap, write", told(x, "s 0;w 0 5 9"), 2);
        due("reads", x.read(0, 5), 9);
        due("revert", told(x, "r 0"), 1);
        due("reads", x.read(0, 5), 21);
        due("drop", told(x, "d 0"), 1);
        due("none", x.count(1), 0);
        due("write, give up", told(x, "w 1 5 1;g 1 1"), 2);
        due("reads", x.read(1, 5), 21);
        due("write, merge", told(x, "w 1 4 1;m 1"), 2);
        due("reads", x.read(0, 4), 1);
        due("fold", told(x, "w 1 0 1;w 1 16 1;f"), 3);
        due("folded", x.all(3) != 0 ? 1 : 0, 1);
        int writes = x.count(5);
        due("refused: BAD", told(x, "w 0 0 1;w 0 0 256;w 0 0 9"), -301);
        due("those ahead stay", x.read(0, 0), 1);
        due("it counts", x.refused(0), 1);
        due("refused: STATE", told(x, "m 0"), -300);
        due("it counts", x.refused(2), 1);
        due("not there", told(x, "f;d 7"), -301);
        due("tape empty", x.count(4), 0);
        x.tear(0);
        due("torn", told(x, "s 0;s 0"), -300);
        x.tear(1);
        due("the first alone is torn", told(x, "g 0 15;w 0 0 7;s 5"), -302);
        due("so this was written", x.read(0, 0), 7);
        due("writes", x.count(5) > writes ? 1 : 0, 1);
        leaveFree(x, 0);
        due("refused: FULL", told(x, "w 0 60 1"), -300);
        StringBuilder most = new StringBuilder("f");
        for (int i = 1; i < 60; i++) {
            most.append(";f");
        }
        due("sixty", told(x, most.toString()), 60);
        x.spoil(1, 0);
        due("each refused from the first on", told(x, most.toString()), -300);
    }

    private static void runFaults() {
        String[] texts = {"", "q", ";", "f;", "f;;f", "f f", "f ", "ff", "F", " f", "s", "s ", "s 0 ",
            "s  0", "s 0;x", "s 1234", "s -1", "w 0 0", "w 0 0 0 0", "w 0 0 0;", "g 0", "g 0 1 2",
            "w 0 0 x", "m 0\n", "x 0", "sd 0", "w 0 1234 1", "d 0;r 0;g 0 0;m 0;f;w 1 1 1;s 0;\u00e9"};
        int[] places = {0, 0, 0, 2, 2, 1, 1, 1, 0, 0, 1, 2, 3,
            2, 4, 5, 2, 5, 7, 8, 3, 5,
            6, 3, 0, 1, 7, 32};
        for (int i = 0; i < texts.length; i++) {
            TornLayers x = withLayers(-1, 0);
            due("text '" + texts[i] + "'", told(x, texts[i]), -10 - places[i]);
            due("none is done", x.count(5), 0);
            due("the tape is empty", x.count(4), 0);
            due("nothing refused", x.refused(0) + x.refused(2), 0);
        }
        TornLayers y = withLayers(-1);
        for (int i = 0; i < 119; i++) {
            y.feed(i % 2 == 0 ? 'f' : ';', 1);
        }
        y.feed(';', 1);
        due("120 bytes, too early an end", y.run(), -130);
        due("a byte above 127", told(y, "\u00ff"), -10);
        due("a byte 0", told(y, "\u0000"), -10);
    }

    private static void keep() {
        TornLayers x = withLayers(-1, 0);
        due("free", x.keep(), 63);
        x.write(0, 0, 1);
        x.snap(0);
        x.tear(4);
        due("free", x.keep(), 61);
        x.write(0, 0, 2);
        x.layer(1);
        x.move(1, -1, 0);
        x.drop(0);
        x.spoil(40, 3);
        due("laid again", x.again(), 61);
        due("place", x.read(0, 0), 1);
        due("layers", x.count(0), 2);
        due("backing", x.of(1, 0), 0);
        due("snapshots", x.count(1), 1);
        due("old", x.readOld(0, 0), 1);
        due("count", x.cluster(40, 0), 0);
        due("tear", x.count(3), 4);
    }

    private static void again() {
        TornLayers x = withLayers(-1);
        due("nothing kept", x.again(), STATE);
        due("counted", x.refused(2), 1);
        x.keep();
        x.write(0, 0, 1);
        say(x, "s 0");
        x.read(9, 9);
        due("laid again", x.again(), 63);
        due("read", x.read(0, 0), 0);
        due("the tape isn't", x.count(4), 3);
        due("refusals aren't", x.refused(0) * 10 + x.refused(2), 11);
        due("writes aren't", x.count(5), 7);
        x.write(0, 0, 2);
        due("twice", x.again(), 63);
        due("read", x.read(0, 0), 0);
        x.write(0, 0, 3);
        x.keep();
        x.write(0, 0, 4);
        due("the latest", x.again(), 61);
        due("read", x.read(0, 0), 3);
        x.spoil(1, 0);
        x.keep();
        x.repair();
        due("a lack, too", x.again(), 62);
        due("is there again", x.write(0, 0, 1), STATE);
    }

    private static void count() {
        TornLayers x = withLayers(-1, 0, 0);
        x.write(0, 0, 1);
        x.snap(0);
        x.snap(1);
        x.drop(0);
        x.tear(12);
        x.feed(0, 5);
        int[] want = {3, 2, 61, 12, 5, 7 + 2 + 1 + 2};
        for (int what = 0; what < 6; what++) {
            due("what " + what, x.count(what), want[what]);
        }
        x.tear(3);
        x.write(0, 16, 1);
        due("torn ones, too", x.count(5), 12 + 3);
        due("a cluster fewer", x.count(2), 60);
        int[] bad = {6, -1, MOST, LEAST};
        for (int b : bad) {
            due("bad", x.count(b), BAD);
        }
        due("counted", x.refused(0), bad.length);
    }

    private static void refused() {
        TornLayers x = withLayers(-1);
        due("another", x.refused(4), BAD);
        due("another", x.refused(-1), BAD);
        due("another", x.refused(LEAST), BAD);
        due("counted", x.refused(0), 3);
        x.merge(0);
        due("STATE", x.refused(2), 1);
        x.move(0, 0, 0);
        x.move(0, 0, 1);
        due("ROUND", x.refused(3), 2);
        leaveFree(x, 0);
        x.write(0, 0, 0);
        due("FULL", x.refused(1), 1);
        x.spoil(1, 0);
        x.tear(0);
        x.snap(0);
        due("TORN isn't", x.refused(0) + x.refused(1) + x.refused(2) + x.refused(3), 7);
    }
}
