/** Promises 17 to 25: counts, and who holds what. */
final class EdgesOfCounts extends Edges {
    EdgesOfCounts(Doc doc, Due due) {
        super(doc, due);
    }

    @Override
    void all() {
        cluster();
        clusterRefused();
        spoil();
        spoilRefused();
        leaks();
        lacks();
        free();
        shared();
        sharedFirst();
        anotherSet();
        repair();
        holds();
        holdsNone();
        alone();
        aloneNone();
        holders();
        holdersRefused();
        best();
        bestOfSeveral();
        bestNone();
        bestRefused();
        twins();
        mostTwins();
        twinsOfTheFirst();
    }

    private void cluster() {
        says(17, "COUNT of a CLUSTER (what 0), the TRUE one (1), CELLS 0 to 3 of it (2 to 5).");
        TornLayers x = snapped(cells(4));
        x.spoil(1, 99);
        int[] table = {99, 2, 2, 3, 4, 5};
        for (int what = 0; what <= 5; what++) {
            is("the TABLE, " + what, x.cluster(1, what), table[what]);
        }
        for (int i = 0; i < 4; i++) {
            x.write(0, 60 + i, 255 - i);
        }
        int data = x.cluster(6, 5);
        int[] cells = {1, 1, 255, 254, 253, 252};
        for (int what = 0; what <= 5; what++) {
            is("the DATA, " + what, x.cluster(data, what), cells[what]);
        }
        is("the last", x.cluster(63, 0), 0);
        x.spoil(63, 1);
        is("the last, a LEAK", x.cluster(63, 0) * 10 + x.cluster(63, 1), 10);
        TornLayers y = one();
        y.giveUp(0, 0);
        is("a free one keeps its CELLS", y.cluster(2, 2), 1);
        is("but has no COUNT", y.cluster(2, 0) + y.cluster(2, 1), 0);
    }

    private void clusterRefused() {
        says(17, "BAD.");
        bad("no CLUSTER", Edges::one, (x, c) -> x.cluster(c, 0), 0, 64, -1, LEAST, MOST);
        bad("no CLUSTER's CELL", Edges::one, (x, c) -> x.cluster(c, 5), 0, 64, -1, LEAST, MOST);
        bad("no what", Edges::one, (x, what) -> x.cluster(63, what), -1, 6, LEAST, MOST);
    }

    private void spoil() {
        says(18, "COUNT of a CLUSTER becomes n (0 to 99): what it was.");
        TornLayers x = one();
        is("the first: was", x.spoil(1, 99), 1);
        is("becomes the greatest", x.cluster(1, 0), 99);
        is("was", x.spoil(1, 0), 99);
        is("becomes the least", x.cluster(1, 0), 0);
        is("was", x.spoil(1, 1), 0);
        is("the last: was", x.spoil(63, 99), 0);
        is("was", x.spoil(63, 99), 99);
        x.spoil(1, 99);
        x.snap(0);
        is("beyond 99 by a DEED", x.cluster(1, 0), 100);
        is("was", x.spoil(1, 2), 100);
        is("the TRUE one isn't spoiled", x.cluster(1, 1), 2);
        is("no WRITES", x.count(5), 7 + 2);
        torn(x, 0);
        x.spoil(40, 1);
        is("it is no DEED", x.count(3), 0);
    }

    private void spoilRefused() {
        says(18, "BAD.");
        bad("no CLUSTER", Edges::one, (x, c) -> x.spoil(c, 1), 0, 64, -1, LEAST, MOST);
        bad("no n", Edges::one, (x, n) -> x.spoil(1, n), -1, 100, LEAST, MOST);
        leaves("neither, once", Edges::one, x -> x.spoil(0, 100), BAD);
    }

    private static final String SETS = "CLUSTERS with a LEAK (what 0), a LACK (1), free ones (2), DATA that"
            + " more than one CELL names (3), as a set (bit c for CLUSTER c);";

    private void leaks() {
        says(19, SETS);
        TornLayers x = one();
        is("none", x.all(0), 0);
        x.spoil(63, 1);
        is("the last alone: the highest bit", x.all(0), Long.MIN_VALUE);
        x.spoil(1, 2);
        is("the first, too", x.all(0), Long.MIN_VALUE | 2);
        for (int c = 1; c < 64; c++) {
            x.spoil(c, 99);
        }
        is("all, and no bit 0", x.all(0), -2L);
    }

    private void lacks() {
        says(19, SETS);
        TornLayers x = layers(-1);
        for (int c = 1; c < 62; c++) {
            x.spoil(c, 1);
        }
        x.write(0, 0, 1);
        is("none", x.all(1), 0);
        x.spoil(63, 0);
        is("the last alone: the highest bit", x.all(1), Long.MIN_VALUE);
        x.spoil(62, 0);
        is("its TABLE, too", x.all(1), 3L << 62);
        for (int c = 1; c < 62; c++) {
            x.spoil(c, 0);
        }
        is("0 is no LACK where TRUE is 0", x.all(1), 3L << 62);
    }

    private void free() {
        says(19, SETS);
        TornLayers x = layers(-1);
        is("all, and no bit 0", x.all(2), -2L);
        x.write(0, 0, 1);
        is("but two", x.all(2), -8L);
        for (int c = 3; c < 63; c++) {
            x.spoil(c, 1);
        }
        is("the last alone: the highest bit", x.all(2), Long.MIN_VALUE);
        x.spoil(63, 1);
        is("none", x.all(2), 0);
        x.spoil(1, 0);
        is("by the COUNT alone, whoever names it", x.all(2), 2);
    }

    private void shared() {
        says(19, SETS);
        TornLayers x = cells(2);
        is("one CELL each", x.all(3), 0);
        x.write(0, 4, 1);
        is("alike only", x.all(3), 0);
        x.fold();
        is("two CELLS of one TABLE", x.all(3), set(2));
        x.snap(0);
        is("the TABLE is shared: it is no DATA", x.all(3), set(2));
        x.giveUp(0, 0);
        is("three CELLS of two TABLES", x.all(3), set(2));
        TornLayers y = snapped(cells(4));
        is("CELLS of a shared TABLE are one each", y.all(3), 0);
        y.write(0, 0, 9);
        is("two TABLES, but for one BLOCK", y.all(3), set(3, 4, 5));
        torn(y, 1);
        y.drop(0);
        is("what no DIRECTORY names is no TABLE", y.all(3), 0);
        is("though they leak", y.all(0), set(1, 2, 3, 4, 5));
        TornLayers z = layers(-1);
        for (int c = 1; c < 60; c++) {
            z.spoil(c, 1);
        }
        z.write(0, 0, 1);
        z.write(0, 16, 1);
        z.spoil(59, 0);
        z.fold();
        is("the least", z.all(3), set(61));
        z.spoil(61, 1);
        is("by the CELLS, whatever the COUNT is", z.all(3), set(61));
    }

    /** The least cluster comes free by a merge, and is a DATA then. */
    private static TornLayers firstAsData() {
        TornLayers x = layers(-1, 0);
        x.write(1, 0, 1);
        x.merge(1);
        x.write(0, 4, 1);
        return x;
    }

    private void sharedFirst() {
        says(19, SETS);
        TornLayers x = firstAsData();
        is("the first CLUSTER, one CELL", x.all(3), 0);
        x.fold();
        is("two CELLS", x.all(3), set(1));
    }

    private void anotherSet() {
        says(19, "0 for another what (nothing is refused).");
        int[] others = {-1, 4, 5, 9, LEAST, MOST};
        for (int what : others) {
            leaves("what " + what, () -> lacking(snapped(cells(4))), x -> x.all(what), 0);
        }
    }

    private void repair() {
        says(20, "REPAIR: how many COUNTS changed.");
        leaves("none, nothing there", () -> layers(-1), x -> x.repair(), 0);
        leaves("none", () -> snapped(one()), x -> x.repair(), 0);
        TornLayers x = snapped(one());
        for (int c = 1; c < 64; c++) {
            x.spoil(c, 99);
        }
        is("all of them", x.repair(), 63);
        is("then none", x.repair(), 0);
        x.spoil(1, 2);
        is("spoiled to what it is", x.repair(), 0);
        x.spoil(2, 0);
        is("a LACK alone", x.repair(), 1);
        x.spoil(63, 1);
        is("the last alone", x.repair(), 1);
        torn(x, 0);
        x.spoil(1, 0);
        is("it is no DEED, and isn't refused", x.repair(), 1);
        is("the TEAR stays", x.count(3), 0);
        is("no WRITES", x.count(5), 7 + 2);
    }

    private void holds() {
        says(21, "HOLDS of a LAYER (0 to 5), of a SNAPSHOT (10 to 17);");
        TornLayers x = layers(-1, -1, -1, -1, -1, -1);
        for (int l = 0; l < 6; l++) {
            x.write(l, 63, l);
        }
        for (int l = 0; l < 6; l++) {
            is("LAYER " + l, x.holds(l), set(2 * l + 1, 2 * l + 2));
        }
        for (int s = 0; s < 8; s++) {
            x.snap(s % 6);
        }
        for (int s = 0; s < 8; s++) {
            is("SNAPSHOT " + s, x.holds(10 + s), set(2 * (s % 6) + 1, 2 * (s % 6) + 2));
        }
        TornLayers y = layers(-1);
        for (int c = 1; c < 62; c++) {
            y.spoil(c, 1);
        }
        y.write(0, 0, 1);
        is("the highest bits", y.holds(0), 3L << 62);
        TornLayers z = layers(-1);
        writeAll(z, 0, 1);
        is("four TABLES and sixteen DATA", z.holds(0), (1L << 21) - 2);
    }

    private void holdsNone() {
        says(21, "0 for none such.");
        int[] none = {-1, 1, 5, 6, 9, 11, 17, 18, LEAST, MOST};
        for (int who : none) {
            leaves("who " + who, () -> snapped(one()), x -> x.holds(who), 0);
        }
        int[] never = {-5, -1, 6, 7, 8, 9, 18, 19, 23, LEAST, LEAST + 4, MOST};
        for (int who : never) {
            leaves("all are there, who " + who, EdgesOfCounts::allThere, x -> x.holds(who), 0);
        }
        TornLayers x = snapped(one());
        x.drop(0);
        is("there no more", x.holds(10), 0);
        is("nothing there", layers(-1).holds(0), 0);
    }

    /** Six layers and eight snapshots, each with its own, as far as there is room for it. */
    private static TornLayers allThere() {
        TornLayers x = layers(-1, -1, -1, -1, -1, -1);
        for (int s = 0; s < 8; s++) {
            x.write(s % 6, 0, s);
            x.snap(s % 6);
        }
        for (int l = 0; l < 6; l++) {
            x.write(l, 0, 99);
        }
        return x;
    }

    private void alone() {
        says(22, "Of HOLDS of one those that no other LAYER, SNAPSHOT HOLDS;");
        TornLayers x = cells(2);
        is("all of it", x.alone(0), set(1, 2, 3));
        x.snap(0);
        is("none of it", x.alone(0), 0);
        is("nor of the SNAPSHOT's", x.alone(10), 0);
        x.write(0, 0, 9);
        is("but for what is shared", x.alone(0), set(4, 5));
        is("the other way", x.alone(10), set(1, 2));
        x.snap(0);
        is("two SNAPSHOTS", x.alone(11), 0);
        is("the first still", x.alone(10), set(1, 2));
        TornLayers y = layers(-1, -1, -1, -1, -1, -1);
        y.write(0, 0, 1);
        y.write(5, 60, 1);
        is("the last LAYER", y.alone(5), set(3, 4));
        y.fold();
        is("shared by LAYERS", y.alone(5), set(3));
        is("the first one", y.alone(0), set(1));
        y.spoil(2, 99);
        is("whatever the COUNT is", y.alone(0), set(1));
        TornLayers z = layers(-1);
        for (int s = 0; s < 8; s++) {
            z.write(0, 0, 1);
            z.snap(0);
        }
        z.write(0, 0, 1);
        is("the last SNAPSHOT", z.alone(17), z.holds(17));
        is("a LEAK is held by nobody", z.alone(0), z.holds(0));
    }

    private void aloneNone() {
        says(22, "0 for none such.");
        int[] none = {-1, 1, 5, 6, 9, 11, 17, 18, LEAST, MOST};
        for (int who : none) {
            leaves("who " + who, () -> snapped(one()), x -> x.alone(who), 0);
        }
        int[] never = {-5, -1, 6, 7, 8, 9, 18, 19, 23, LEAST, LEAST + 4, MOST};
        for (int who : never) {
            leaves("all are there, who " + who, EdgesOfCounts::allThere, x -> x.alone(who), 0);
        }
        is("but one that is", Long.bitCount(allThere().alone(5)), 2);
        is("and the last that is", Long.bitCount(allThere().alone(17)), 2);
        is("nothing there", layers(-1, 0).alone(1), 0);
    }

    private void holders() {
        says(23, "LAYERS (bits 0 to 5), SNAPSHOTS (bits 10 to 17) that HOLD a CLUSTER.");
        TornLayers x = layers(-1, -1, -1, -1, -1, -1);
        for (int l = 0; l < 6; l++) {
            x.write(l, 0, 1);
            is("LAYER " + l, x.holders(2 * l + 1), 1 << l);
            is("its DATA", x.holders(2 * l + 2), 1 << l);
        }
        x.fold();
        is("all LAYERS", x.holders(2), 63);
        for (int s = 0; s < 8; s++) {
            x.snap(5);
            is("and SNAPSHOTS to " + s, x.holders(2), 63 | ((2 << s) - 1) << 10);
            is("of the TABLE", x.holders(11), 32 | ((2 << s) - 1) << 10);
        }
        is("nobody", x.holders(4), 0);
        x.spoil(63, 9);
        is("nobody holds a LEAK", x.holders(63), 0);
        x.drop(0);
        is("no more", x.holders(2) >> 10 & 1, 0);
    }

    private void holdersRefused() {
        says(23, "BAD.");
        bad("no CLUSTER", Edges::one, (x, c) -> x.holders(c), 0, 64, -1, LEAST, MOST);
        leaves("the last", Edges::one, x -> x.holders(63), 0);
        leaves("the first", Edges::one, x -> x.holders(1), 1);
    }

    private static final String BEST = "The SNAPSHOT by whose DROP most CLUSTERS come free (COUNT 0 then, not"
            + " now), of several the least: what 0 which, 1 how many; NONE: none is there, or DEEDS are refused.";

    private void best() {
        says(24, BEST);
        TornLayers x = snapped(one());
        is("none comes free: which", x.best(0), 0);
        is("none comes free: how many", x.best(1), 0);
        x.write(0, 0, 2);
        is("a TABLE and a DATA", x.best(1), 2);
        x.spoil(1, 2);
        is("the TABLE leaks: nothing", x.best(1), 0);
        x.spoil(1, 1);
        x.spoil(2, 2);
        is("the DATA leaks: the TABLE alone", x.best(1), 1);
        x.repair();
        x.spoil(50, 0);
        is("what is free now isn't counted", x.best(1), 2);
        leaves("nothing is dropped", () -> snapped(one()), y -> y.best(0), 0);
        leaves("the TEAR aside", () -> torn(snapped(one()), 0), y -> y.best(1), 0);
        TornLayers z = layers(-1);
        writeAll(z, 0, 1);
        z.snap(0);
        for (int b = 0; b < 16; b++) {
            z.write(0, 4 * b, 2);
        }
        is("all of a LAYER's", z.best(1), 20);
        is("an empty one", snapped(layers(-1)).best(1), 0);
    }

    private void bestOfSeveral() {
        says(24, BEST);
        TornLayers x = layers(-1);
        for (int s = 0; s < 8; s++) {
            x.write(0, 0, s);
            x.snap(0);
        }
        x.write(0, 0, 8);
        is("eight as good: the least", x.best(0), 0);
        is("how many", x.best(1), 2);
        x.drop(0);
        is("the least of seven", x.best(0), 1);
        x.revert(1);
        is("1 shares it with the LAYER: the next", x.best(0), 2);
        TornLayers y = layers(-1);
        for (int s = 0; s < 7; s++) {
            y.write(0, 0, s);
            y.snap(0);
        }
        y.write(0, 4, 1);
        y.write(0, 0, 9);
        y.snap(0);
        y.write(0, 0, 10);
        y.write(0, 4, 10);
        is("the last has one more", y.best(0), 7);
        is("how many", y.best(1), 3);
    }

    private void bestNone() {
        says(24, BEST);
        for (int what = 0; what <= 1; what++) {
            int asked = what;
            leaves("no LAYER", TornLayers::new, x -> x.best(asked), NONE);
            leaves("none is there", Edges::one, x -> x.best(asked), NONE);
            leaves("a LACK", () -> lacking(snapped(one())), x -> x.best(asked), NONE);
            leaves("both", () -> lacking(one()), x -> x.best(asked), NONE);
        }
        TornLayers x = snapped(one());
        x.drop(0);
        is("there no more", x.best(0), NONE);
    }

    private void bestRefused() {
        says(24, "BAD.");
        bad("no what", () -> snapped(one()), (x, what) -> x.best(what), -1, 2, LEAST, MOST);
        bad("none there", Edges::one, (x, what) -> x.best(what), -1, 2);
        bad("a LACK", () -> lacking(snapped(one())), (x, what) -> x.best(what), -1, 2);
    }

    private void twins() {
        says(25, "How many pairs of DATA (of TABLES that DIRECTORIES name) have all CELLS alike.");
        is("no LAYER", new TornLayers().twins(), 0);
        is("no DATA", cells(0).twins(), 0);
        is("one", one().twins(), 0);
        for (int i = 0; i < 4; i++) {
            TornLayers x = layers(-1);
            x.write(0, 0, 0);
            x.write(0, 60 + i, 1);
            is("unlike in CELL " + i, x.twins(), 0);
            x.write(0, 60 + i, 0);
            is("alike", x.twins(), 1);
        }
        TornLayers x = snapped(one());
        is("the same DATA isn't a pair", x.twins(), 0);
        x.write(0, 0, 1);
        is("a SNAPSHOT's and a LAYER's", x.twins(), 1);
        torn(x, 1);
        x.drop(0);
        is("not one that no TABLE names", x.twins(), 0);
        TornLayers y = torn(layers(-1), 5);
        y.write(0, 0, 9);
        y.write(0, 4, 0);
        is("nor one that was never named", y.cluster(2, 0), 1);
        is("no pair", y.twins(), 0);
        TornLayers z = layers(-1);
        z.write(0, 0, 1);
        z.write(0, 4, 1);
        z.fold();
        is("folded into one: no pair", z.twins(), 0);
        is("with a LACK, too", lacking(snapped(one())).twins(), 0);
    }

    private void twinsOfTheFirst() {
        says(25, "How many pairs of DATA (of TABLES that DIRECTORIES name) have all CELLS alike.");
        TornLayers x = firstAsData();
        is("the first CLUSTER and another", x.twins(), 1);
        x.write(0, 4, 2);
        is("unlike", x.twins(), 0);
    }

    private void mostTwins() {
        says(25, "How many pairs of DATA (of TABLES that DIRECTORIES name) have all CELLS alike.");
        TornLayers x = layers(-1, -1, -1, -1);
        for (int l = 0; l < 3; l++) {
            for (int b = 0; b < 16; b++) {
                x.write(l, 4 * b, 1);
            }
        }
        is("48", x.twins(), 48 * 47 / 2);
        x.write(3, 0, 1);
        x.write(3, 4, 1);
        is("all clusters in use", x.count(2), 0);
        is("50", x.twins(), 50 * 49 / 2);
        x.write(3, 4, 2);
        is("one is unlike", x.twins(), 49 * 48 / 2);
    }
}
