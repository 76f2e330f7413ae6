/** The Terms that say of which single writes, in which order, each deed is made. */
final class EdgesOfWrites extends Edges {
    EdgesOfWrites(Doc doc, Due due) {
        super(doc, due);
    }

    @Override
    void all() {
        cellsAtOnce();
        directoryAtOnce();
        recordsAndBackings();
        newClusters();
        noTableThere();
        sharedTable();
        sharedTablesCells();
        release();
        writeNewData();
        writeSharedData();
        snapTables();
        dropTables();
        revertTables();
        revertApart();
        giveUp();
        merge();
        mergeInOrder();
        move();
        moveEdges();
        fold();
        foldInOrder();
        foldOnlyWhatIsNamed();
        foldNoNumbersInData();
        foldOntoTheFirst();
        tear();
        tearLeftByRefused();
    }

    private static final String WRITES = "DEEDS are made of WRITES, one by one, as told here in brackets:"
            + " [COUNT c], [CELLS c]"
            + " (all four of a CLUSTER at once), [CELL c], [DIRECTORY d: one number], [DIRECTORY d: all], [RECORD s]"
            + " (a SNAPSHOT is there, with its LAYER and DIRECTORY, or no more), [BACKING l].";

    private void cellsAtOnce() {
        says(0, WRITES);
        int[] below = {10, 20, 30, 40};
        for (int n = 0; n <= 7; n++) {
            TornLayers x = layers(-1, 0);
            for (int i = 0; i < 4; i++) {
                x.write(0, i, below[i]);
            }
            torn(x, n);
            is("[CELL] is one of seven", x.write(1, 1, 99), n == 7 ? 7 : TORN);
            is("[COUNT]", x.cluster(4, 0), n >= 4 ? 1 : 0);
            is("[DIRECTORY: one number]", x.holds(1) & set(3), n >= 3 ? set(3) : 0);
            for (int i = 0; i < 4; i++) {
                int copied = n >= 5 ? below[i] : 0;
                is("[CELLS] behind " + n, x.cluster(4, 2 + i), n == 7 && i == 1 ? 99 : copied);
            }
        }
    }

    /** Layer 0 has other tables (9, 11, 13, 15) than its snapshot (1, 3, 5, 7), four of each. */
    private static TornLayers apart() {
        TornLayers x = snapped(tables(4));
        for (int i = 0; i < 4; i++) {
            x.write(0, 16 * i, 2);
        }
        return x;
    }

    private void directoryAtOnce() {
        says(0, WRITES);
        for (int n = 0; n <= 13; n++) {
            TornLayers x = torn(apart(), n);
            is("torn behind " + n, x.revert(0), n == 13 ? 13 : TORN);
            for (int i = 0; i < 4; i++) {
                is("[DIRECTORY: all], number " + i, x.read(0, 16 * i), n >= 5 ? 1 : 2);
            }
        }
    }

    private void recordsAndBackings() {
        says(0, WRITES);
        for (int n = 0; n <= 5; n++) {
            TornLayers x = torn(tables(4), n);
            is("torn behind " + n, x.snap(0), n == 5 ? 5 : TORN);
            is("[RECORD] there", x.count(1), n == 5 ? 1 : 0);
            is("with its DIRECTORY", x.holds(10), n == 5 ? x.holds(0) : 0);
        }
        TornLayers x = layers(-1, -1);
        x.write(0, 0, 1);
        x.write(1, 0, 2);
        x.snap(1);
        x.write(1, 0, 3);
        is("with its LAYER", x.revert(0), 4);
        is("that one", x.read(1, 0), 2);
        is("not another", x.read(0, 0), 1);
        torn(x, 0);
        is("no RECORD yet", x.drop(0), TORN);
        is("there", x.count(1), 1);
        torn(x, 1);
        is("[RECORD]", x.drop(0), TORN);
        is("no more", x.count(1), 0);
        is("no DIRECTORY of it, either", x.holds(10), 0);
        torn(x, 0);
        is("no BACKING yet", x.move(1, 0, 0), TORN);
        is("as before", x.of(1, 0), -1);
        is("[BACKING]", x.move(1, 0, 0), 1);
        is("so it is", x.of(1, 0), 0);
    }

    private void newClusters() {
        says(0, "A new CLUSTER: the least one with COUNT 0.");
        TornLayers x = layers(-1);
        x.spoil(1, 1);
        x.spoil(3, 99);
        x.write(0, 0, 9);
        is("1 and 3 aren't", x.holds(0), set(2, 4));
        x.spoil(1, 0);
        x.write(0, 4, 9);
        is("1 is again", x.holds(0), set(1, 2, 4));
        x.giveUp(0, 0);
        is("4 came free", x.cluster(4, 0), 0);
        x.write(0, 8, 9);
        is("and is the least", x.holds(0), set(1, 2, 4));
        TornLayers y = layers(-1);
        for (int c = 1; c < 63; c++) {
            y.spoil(c, 1);
        }
        is("only the last one", y.write(0, 0, 1), FULL);
        y.spoil(1, 0);
        is("the first and the last", y.write(0, 0, 1), 7);
        is("in this order", y.cluster(1, 2), 63);
    }

    private void noTableThere() {
        says(0, "TO OWN THE TABLE of BLOCK b in a DIRECTORY: none there: a new CLUSTER n: [COUNT n] 1, [CELLS"
                + " n] all 0, [DIRECTORY] n.");
        for (int n = 0; n <= 3; n++) {
            TornLayers x = cells(1);
            x.write(0, 0, 255);
            x.write(0, 3, 64);
            x.giveUp(0, 0);
            is("free, but with CELLS of before", x.cluster(2, 2) * 256 + x.cluster(2, 5), 255 * 256 + 64);
            torn(x, n);
            is("torn behind " + n, x.write(0, 16, 9), TORN);
            is("[COUNT]", x.cluster(2, 0), n >= 1 ? 1 : 0);
            is("[CELLS] first", x.cluster(2, 2), n >= 2 ? 0 : 255);
            is("[CELLS] last", x.cluster(2, 5), n >= 2 ? 0 : 64);
            is("reads as before", x.read(0, 16), 0);
            is("[DIRECTORY]", x.holds(0), n >= 3 ? set(1, 2) : set(1));
            is("a LEAK till then", x.all(0), n == 1 || n == 2 ? set(2) : 0);
        }
    }

    private static final String SHARED = "One with COUNT above 1 (o): a new CLUSTER n: [COUNT n] 1, [CELLS n]"
            + " as those of o,"
            + " for each CELL of it that isn't 0, one by one: [COUNT of that] 1 more; [DIRECTORY] n; [COUNT o]"
            + " 1 less.";

    private void sharedTable() {
        says(0, SHARED);
        TornLayers x = one();
        is("COUNT 1: it stays", x.cost(0, 0), 1);
        x.spoil(1, 2);
        is("COUNT 2", x.cost(0, 0), 10);
        x.spoil(1, 99);
        is("COUNT 99", x.write(0, 0, 5), 10);
        is("one less", x.cluster(1, 0), 98);
        is("another one", x.holds(0), set(3, 4));
        for (int many = 0; many <= 4; many++) {
            TornLayers y = snapped(cells(many));
            is(many + " CELLS that aren't 0", y.giveUp(0, 0), many == 0 ? 0 : 6 + many);
            TornLayers z = snapped(cells(many));
            is(many + " CELLS, the next written", z.cost(0, 4 * many), many == 4 ? 7 : 8 + many);
            is(many + " CELLS, the last written", z.cost(0, 12), many == 4 ? 13 : 8 + many);
        }
    }

    private void sharedTablesCells() {
        says(0, SHARED);
        for (int n = 0; n <= 13; n++) {
            TornLayers x = torn(snapped(cells(4)), n);
            is("torn behind " + n, x.write(0, 0, 9), n == 13 ? 13 : TORN);
            is("[COUNT n]", x.cluster(6, 0), n >= 1 ? 1 : 0);
            for (int i = 0; i < 4; i++) {
                int own = i == 0 && n >= 11 ? 7 : 2 + i;
                is("[CELLS n], " + i, x.cluster(6, 2 + i), n >= 2 ? own : 0);
                int shared = i == 0 && n >= 12 ? 1 : 2;
                is("[COUNT of that], " + i, x.cluster(2 + i, 0), n >= 3 + i ? shared : 1);
            }
            is("[DIRECTORY]", x.holds(0) & set(1, 6), n >= 7 ? set(6) : set(1));
            is("[COUNT o]", x.cluster(1, 0), n >= 8 ? 1 : 2);
            is("no LACK", x.all(1), 0);
            is("reads", x.read(0, 0), n == 13 ? 9 : 1);
            is("old", x.readOld(0, 0), 1);
        }
    }

    private void release() {
        says(0, "TO RELEASE a TABLE: [COUNT] 1 less; if that is 0 then: for each CELL of it that isn't 0, one"
                + " by one: [COUNT of that] 1 less.");
        for (int many = 0; many <= 4; many++) {
            TornLayers x = snapped(layers(-1));
            fillCells(x, many);
            is(many + " CELLS, COUNT 0 then", x.revert(0), 2 + many);
            is("all are free", x.count(2), 63);
            TornLayers y = snapped(layers(-1));
            fillCells(y, many);
            y.snap(0);
            is(many + " CELLS, COUNT 1 then", y.revert(0), 2);
            is("none is free", y.count(2), 62 - many);
            is("no LEAK", y.all(0), 0);
        }
        for (int n = 0; n <= 6; n++) {
            TornLayers x = snapped(layers(-1));
            fillCells(x, 4);
            torn(x, n);
            is("torn behind " + n, x.revert(0), n == 6 ? 6 : TORN);
            is("[COUNT]", x.cluster(1, 0), n >= 2 ? 0 : 1);
            for (int i = 0; i < 4; i++) {
                is("[COUNT of that], " + i, x.cluster(2 + i, 0), n >= 3 + i ? 0 : 1);
            }
        }
        TornLayers z = snapped(layers(-1));
        fillCells(z, 1);
        z.spoil(2, 3);
        is("of one that leaks", z.revert(0), 3);
        is("1 less", z.cluster(2, 0), 2);
    }

    private static final String WRITTEN = "WRITE v at a PLACE of a LAYER: TO OWN THE TABLE; then by the CELL of"
            + " the BLOCK there: 0: a new CLUSTER m:"
            + " [COUNT m] 1, [CELLS m] what the four PLACES are, [CELL of the TABLE] m; a DATA (d) with COUNT"
            + " above 1: a new CLUSTER m:"
            + " [COUNT m] 1, [CELLS m] as those of d, [CELL of the TABLE] m, [COUNT d] 1 less; then [CELL] v.";

    private void writeNewData() {
        says(0, WRITTEN);
        for (int n = 0; n <= 4; n++) {
            TornLayers x = layers(-1, 0);
            for (int i = 0; i < 4; i++) {
                x.write(0, 60 + i, 11 + i);
            }
            x.write(1, 48, 1);
            torn(x, n);
            is("CELL 0, torn behind " + n, x.write(1, 63, 255), n == 4 ? 4 : TORN);
            is("[COUNT m]", x.cluster(5, 0), n >= 1 ? 1 : 0);
            for (int i = 0; i < 4; i++) {
                int written = i == 3 && n == 4 ? 255 : 11 + i;
                is("[CELLS m], " + i, x.cluster(5, 2 + i), n >= 2 ? written : 0);
                is("reads as before or as done", x.read(1, 60 + i), written);
            }
            is("[CELL of the TABLE]", x.cluster(3, 5), n >= 3 ? 5 : 0);
            is("below", x.read(0, 63), 14);
        }
    }

    private void writeSharedData() {
        says(0, WRITTEN);
        TornLayers x = one();
        is("COUNT 1", x.cost(0, 3), 1);
        x.spoil(2, 2);
        is("COUNT 2", x.cost(0, 3), 5);
        for (int n = 0; n <= 5; n++) {
            TornLayers y = one();
            y.write(0, 3, 7);
            y.spoil(2, 2);
            torn(y, n);
            is("torn behind " + n, y.write(0, 0, 9), n == 5 ? 5 : TORN);
            is("[COUNT m]", y.cluster(3, 0), n >= 1 ? 1 : 0);
            is("[CELLS m] first", y.cluster(3, 2), n == 5 ? 9 : n >= 2 ? 1 : 0);
            is("[CELLS m] last", y.cluster(3, 5), n >= 2 ? 7 : 0);
            is("[CELL of the TABLE]", y.cluster(1, 2), n >= 3 ? 3 : 2);
            is("[COUNT d]", y.cluster(2, 0), n >= 4 ? 1 : 2);
            is("d stays as it is", y.cluster(2, 2), 1);
        }
        is("what it is already is WRITTEN, too", one().write(0, 0, 1), 1);
    }

    private void snapTables() {
        says(0, "SNAP a LAYER as SNAPSHOT s: for each TABLE of its DIRECTORY: [COUNT] 1 more; [RECORD s].");
        for (int many = 0; many <= 4; many++) {
            TornLayers x = tables(many);
            is(many + " TABLES", x.snap(0), many + 1);
            for (int i = 0; i < 4; i++) {
                is("[COUNT] of TABLE " + i, x.cluster(1 + 2 * i, 0), i < many ? 2 : 0);
                is("[COUNT] of its DATA", x.cluster(2 + 2 * i, 0), i < many ? 1 : 0);
            }
        }
        for (int n = 0; n <= 5; n++) {
            TornLayers x = torn(tables(4), n);
            is("torn behind " + n, x.snap(0), n == 5 ? 5 : TORN);
            for (int i = 0; i < 4; i++) {
                is("[COUNT] of TABLE " + i, x.cluster(1 + 2 * i, 0), n > i ? 2 : 1);
            }
        }
    }

    private void dropTables() {
        says(0, "DROP a SNAPSHOT: [RECORD s]; then each TABLE of its DIRECTORY is RELEASED.");
        for (int many = 0; many <= 4; many++) {
            TornLayers x = snapped(tables(many));
            is(many + " TABLES", x.drop(0), many + 1);
            is("the LAYER's stay", x.count(2), 63 - 2 * many);
            is("no LEAK", x.all(0), 0);
        }
        for (int n = 0; n <= 9; n++) {
            TornLayers x = torn(apart(), n);
            is("torn behind " + n, x.drop(0), n == 9 ? 9 : TORN);
            is("[RECORD]", x.count(1), n >= 1 ? 0 : 1);
            for (int c = 1; c <= 8; c++) {
                is("RELEASED, " + c, x.cluster(c, 0), n > c ? 0 : 1);
            }
            is("the LAYER is as it was", x.read(0, 0) + x.read(0, 48), 4);
        }
    }

    private static final String REVERTED = "REVERT to a SNAPSHOT: for each TABLE of it: [COUNT] 1 more;"
            + " [DIRECTORY of its LAYER: all]"
            + " as the SNAPSHOT's; each TABLE that the LAYER had is RELEASED.";

    private void revertTables() {
        says(0, REVERTED);
        for (int many = 0; many <= 4; many++) {
            TornLayers x = snapped(tables(many));
            is(many + " TABLES, the same", x.revert(0), 2 * many + 1);
            is("no LEAK", x.all(0), 0);
            TornLayers y = snapped(layers(-1));
            for (int i = 0; i < many; i++) {
                y.write(0, 16 * i, 1);
            }
            is(many + " TABLES that the SNAPSHOT hasn't", y.revert(0), 1 + 2 * many);
            is("it has none then", y.holds(0), 0);
            is("reads", y.read(0, 0), 0);
            is("all free", y.count(2), 63);
        }
    }

    private void revertApart() {
        says(0, REVERTED);
        for (int n = 0; n <= 13; n++) {
            TornLayers x = torn(apart(), n);
            is("torn behind " + n, x.revert(0), n == 13 ? 13 : TORN);
            for (int i = 0; i < 4; i++) {
                is("[COUNT] of TABLE " + i, x.cluster(1 + 2 * i, 0), n > i ? 2 : 1);
                is("RELEASED, TABLE " + i, x.cluster(9 + 2 * i, 0), n > 5 + 2 * i ? 0 : 1);
                is("RELEASED, its DATA", x.cluster(10 + 2 * i, 0), n > 6 + 2 * i ? 0 : 1);
            }
            is("[DIRECTORY]", x.holds(0), n >= 5 ? set(1, 2, 3, 4, 5, 6, 7, 8) : set(9, 10, 11, 12, 13, 14, 15, 16));
            is("the SNAPSHOT stays", x.count(1), 1);
        }
    }

    private void giveUp() {
        says(0, "GIVE UP a BLOCK of a LAYER (not OWN: nothing is done): TO OWN THE TABLE; [CELL of the TABLE]"
                + " 0; [COUNT of the DATA] 1 less.");
        TornLayers x = one();
        is("no TABLE", x.giveUp(0, 4), 0);
        is("no CELL", x.giveUp(0, 1), 0);
        is("OWN", x.giveUp(0, 0), 2);
        is("no more", x.giveUp(0, 0), 0);
        is("the TABLE stays", x.holds(0), set(1));
        TornLayers shared = snapped(cells(1));
        is("not OWN in a shared TABLE", shared.giveUp(0, 3), 0);
        is("it stays shared", shared.cluster(1, 0), 2);
        leaves("not OWN in a shared TABLE, no room", () -> with(snapped(cells(1)), 0), y -> y.giveUp(0, 3), 0);
        for (int n = 0; n <= 7; n++) {
            TornLayers y = torn(snapped(one()), n);
            is("torn behind " + n, y.giveUp(0, 0), n == 7 ? 7 : TORN);
            is("TO OWN THE TABLE", y.holds(0) & set(1, 3), n >= 4 ? set(3) : set(1));
            is("[CELL of the TABLE]", y.cluster(3, 2), n >= 2 && n < 6 ? 2 : 0);
            is("[COUNT of the DATA]", y.cluster(2, 0), n >= 3 && n < 7 ? 2 : 1);
            is("the SNAPSHOT's is as it was", y.readOld(0, 0), 1);
        }
    }

    private static final String MERGED = "MERGE a LAYER into its BACKING: each PLACE of its OWN BLOCKS, one by"
            + " one, is WRITTEN to the BACKING;"
            + " [DIRECTORY: all] 0; each TABLE it had is RELEASED.";

    private void merge() {
        says(0, MERGED);
        TornLayers x = layers(-1, 0);
        is("no TABLE", x.merge(1), 1);
        x.write(1, 0, 1);
        x.giveUp(1, 0);
        is("a TABLE with no CELL", x.merge(1), 2);
        is("nothing came below", x.of(0, 1), 0);
        is("all free", x.count(2), 63);
        writeAll(x, 1, 200);
        is("all BLOCKS", x.merge(1), 124 + 1 + 4 * 5);
        is("all below", x.of(0, 1), 65535);
        is("none above", x.holds(1), 0);
        is("free", x.count(2), 43);
        writeAll(x, 1, 100);
        is("onto OWN BLOCKS", x.merge(1), 64 + 1 + 4 * 5);
        is("the first PLACE", x.read(0, 0), 100);
        is("the last PLACE", x.read(0, 63), 100);
    }

    private void mergeInOrder() {
        says(0, MERGED);
        for (int n = 0; n <= 13; n++) {
            TornLayers x = layers(-1, 0);
            for (int i = 0; i < 4; i++) {
                x.write(1, 60 + i, 1 + i);
            }
            torn(x, n);
            is("torn behind " + n, x.merge(1), n == 13 ? 13 : TORN);
            for (int i = 0; i < 4; i++) {
                is("PLACE " + (60 + i), x.read(0, 60 + i), n >= 7 + i ? 1 + i : 0);
                is("above it is as it was", x.read(1, 60 + i), 1 + i);
            }
            is("[DIRECTORY: all]", x.holds(1), n >= 11 ? 0 : set(1, 2));
            is("RELEASED: the TABLE", x.cluster(1, 0), n >= 12 ? 0 : 1);
            is("RELEASED: the DATA", x.cluster(2, 0), n >= 13 ? 0 : 1);
        }
        TornLayers y = layers(-1, 0);
        y.write(1, 20, 1);
        y.snap(1);
        is("the SNAPSHOT has the TABLE, too", y.merge(1), 7 + 3 + 1 + 1);
        is("it is old there still", y.readOld(0, 20), 1);
        is("only OWN ones", y.of(0, 1), 1 << 5);
    }

    private static final String MOVED = "MOVE a LAYER onto another BACKING, safely: each PLACE of each BLOCK"
            + " that isn't OWN and isn't (all four)"
            + " the same in the new BACKING (NONE: 0) is WRITTEN to the LAYER as it was; then [BACKING];"
            + " unsafely: [BACKING] alone.";

    private void move() {
        says(0, MOVED);
        for (int i = 0; i < 4; i++) {
            TornLayers x = layers(-1, 0, -1);
            x.write(0, 60 + i, 7);
            is("PLACE " + i + " of four isn't the same", x.move(1, 2, 1), 7 + 3 + 1);
            is("as it was", x.read(1, 60 + i), 7);
            TornLayers y = layers(-1, 0, -1);
            y.write(0, 60 + i, 7);
            y.write(2, 60 + i, 7);
            is("all four are", y.move(1, 2, 1), 1);
            is("so it isn't OWN", y.of(1, 1), 0);
            TornLayers z = layers(-1, 0);
            z.write(0, 60 + i, 7);
            is("NONE: 0", z.move(1, -1, 1), 11);
            is("as it was", z.read(1, 60 + i), 7);
        }
        TornLayers x = layers(-1, 0, -1);
        writeAll(x, 0, 9);
        is("all BLOCKS", x.move(1, 2, 1), 124 + 1);
        is("the first", x.read(1, 0), 9);
        is("the last", x.read(1, 63), 9);
        is("unsafely: [BACKING] alone", x.move(2, 0, 0), 1);
        is("so it is otherwise", x.read(2, 63), 9);
    }

    private void moveEdges() {
        says(0, MOVED);
        TornLayers x = layers(-1, 0, -1);
        x.write(0, 0, 7);
        x.write(1, 0, 8);
        is("an OWN BLOCK isn't WRITTEN", x.move(1, 2, 1), 1);
        is("nor onto NONE", x.move(1, -1, 1), 1);
        x.write(0, 0, 0);
        x.move(1, 0, 0);
        x.giveUp(1, 0);
        is("all 0 in an OWN BLOCK below is the same as NONE", x.move(1, -1, 1), 1);
        is("onto the same one", x.move(1, -1, 1), 1);
        for (int n = 0; n <= 11; n++) {
            TornLayers y = layers(-1, 0, -1);
            for (int i = 0; i < 4; i++) {
                y.write(0, i, 5 + i);
            }
            torn(y, n);
            is("torn behind " + n, y.move(1, 2, 1), n == 11 ? 11 : TORN);
            is("then [BACKING]", y.of(1, 0), n == 11 ? 2 : 0);
            is("reads", y.read(1, 0) * 10 + y.read(1, 3), 58);
            is("OWN", y.of(1, 1), n >= 6 ? 1 : 0);
        }
        TornLayers z = layers(-1, 0, 0);
        z.write(2, 4, 1);
        is("where it isn't OWN but as the new one isn't", z.move(1, 2, 1), 11);
        is("the old 0 is kept", z.read(1, 4), 0);
    }

    private static final String FOLDED = "FOLD: for each TABLE that a DIRECTORY (of a LAYER, of a SNAPSHOT that"
            + " is there) names, by numbers,"
            + " each once, for each of its CELLS that isn't 0 (d), by places: the least DATA e that such a"
            + " TABLE names and that has"
            + " all CELLS alike: if e is less than d: [COUNT e] 1 more, [CELL of the TABLE] e, [COUNT d] 1 less.";

    private void fold() {
        says(0, FOLDED);
        is("no LAYER", new TornLayers().fold(), 0);
        is("no TABLE", layers(-1).fold(), 0);
        is("no CELL", cells(0).fold(), 0);
        is("one DATA", one().fold(), 0);
        for (int i = 0; i < 4; i++) {
            TornLayers x = layers(-1);
            x.write(0, 0, 0);
            x.write(0, 4 + i, 1);
            is("unlike in CELL " + i, x.fold(), 0);
            x.write(0, 4 + i, 0);
            is("alike, all 0", x.fold(), 3);
        }
        for (int n = 0; n <= 3; n++) {
            TornLayers x = layers(-1);
            x.write(0, 3, 9);
            x.write(0, 63, 9);
            torn(x, n);
            is("torn behind " + n, x.fold(), n == 3 ? 3 : TORN);
            is("[COUNT e]", x.cluster(2, 0), n >= 1 ? 2 : 1);
            is("[CELL of the TABLE]", x.cluster(3, 5), n >= 2 ? 2 : 4);
            is("[COUNT d]", x.cluster(4, 0), n >= 3 ? 0 : 1);
            is("reads", x.read(0, 3) + x.read(0, 63), 18);
        }
        TornLayers y = layers(-1);
        y.write(0, 0, 5);
        y.write(0, 4, 5);
        y.snap(0);
        is("a TABLE of two DIRECTORIES, once", y.fold(), 3);
        is("it stays shared", y.cluster(1, 0), 2);
        is("e is d then: no more", y.fold(), 0);
    }

    private void foldInOrder() {
        says(0, FOLDED);
        TornLayers x = layers(-1, -1, -1);
        for (int l = 2; l >= 0; l--) {
            x.write(l, 0, 5);
        }
        torn(x, 3);
        is("three TABLES: 1, 3, 5 of LAYERS 2, 1, 0", x.fold(), TORN);
        is("3 ahead of 5", x.cluster(3, 2), 2);
        is("5 not yet", x.cluster(5, 2), 6);
        TornLayers y = cells(4);
        for (int i = 1; i < 4; i++) {
            y.write(0, 4 * i, 1);
        }
        torn(y, 5);
        is("four alike in one TABLE", y.fold(), TORN);
        int[] cells = {2, 2, 2, 5};
        for (int i = 0; i < 4; i++) {
            is("CELL " + i + " behind 5", y.cluster(1, 2 + i), cells[i]);
        }
        y.repair();
        is("the rest", y.fold(), 3);
        is("COUNT of the least", y.cluster(2, 0), 4);
        is("free", y.count(2), 61);
    }

    private void foldOnlyWhatIsNamed() {
        says(0, FOLDED);
        TornLayers x = snapped(one());
        x.write(0, 0, 1);
        is("alike in a SNAPSHOT that is there", x.twins(), 1);
        x.keep();
        is("so it is folded", x.fold(), 3);
        x.again();
        x.drop(0);
        is("there no more: a free one isn't named", x.fold(), 0);
        x.again();
        x.write(0, 4, 0);
        torn(x, 1);
        x.drop(0);
        is("nor one that only leaks", x.cluster(2, 0) * 10 + x.cluster(1, 0), 11);
        is("its TABLE is no TABLE", x.fold(), 0);
        TornLayers y = torn(layers(-1), 5);
        y.write(0, 0, 9);
        y.write(0, 0, 0);
        is("one that was made but never named", y.cluster(2, 0), 1);
        is("is no DATA", y.fold(), 0);
    }

    /** Cells of a DATA may look like numbers of clusters, and lie beside a TABLE. */
    private void foldNoNumbersInData() {
        says(0, FOLDED);
        TornLayers x = layers(-1);
        x.write(0, 0, 4);
        x.write(0, 4, 9);
        x.write(0, 8, 9);
        is("DATA 4 into 3", x.fold(), 3);
        is("a 4 in the DATA behind the TABLE stays", x.read(0, 0), 4);
        TornLayers y = layers(-1);
        y.write(0, 3, 5);
        y.write(0, 16, 9);
        y.write(0, 20, 9);
        is("DATA 5 into 4", y.fold(), 3);
        is("a 5 in the DATA ahead of the TABLE stays", y.read(0, 3), 5);
    }

    /** The least cluster comes free by a merge, and is a DATA then. */
    private void foldOntoTheFirst() {
        says(0, FOLDED);
        TornLayers x = layers(-1, 0);
        x.write(1, 0, 1);
        x.merge(1);
        x.write(0, 4, 1);
        is("CLUSTER 1 is a DATA", x.cluster(3, 3), 1);
        is("the least that there is", x.fold(), 3);
        is("two CELLS name it", x.cluster(1, 1) * 10 + x.cluster(1, 0), 22);
    }

    private static final String TEAR = "A TEAR of n is set: the next DEED is stopped behind n WRITES (TORN), if"
            + " it has more;"
            + " it is set no more then, either way (a DEED that is refused leaves it).";

    private void tear() {
        says(0, TEAR);
        for (int n = 0; n <= 8; n++) {
            TornLayers x = torn(layers(-1), n);
            is("seven WRITES, a TEAR of " + n, x.write(0, 0, 1), n < 7 ? TORN : 7);
            is("done", x.count(5), Math.min(n, 7));
            is("set no more", x.count(3), -1);
            int again = n < 3 ? 7 : n < 6 ? 4 : 1;
            is("so the next one isn't TORN", x.write(0, 0, 2), again);
        }
        TornLayers y = torn(layers(-1), 0);
        is("a DEED of no WRITES isn't TORN", y.fold(), 0);
        is("but it was the next", y.count(3), -1);
        torn(y, 0);
        is("GIVE UP of what isn't OWN has none, either", y.giveUp(0, 0), 0);
        is("and was the next", y.count(3), -1);
        torn(y, 999);
        is("far more than it has", y.snap(0), 1);
        is("set no more", y.count(3), -1);
        torn(y, 0);
        y.layer(0);
        y.spoil(9, 1);
        y.repair();
        y.keep();
        y.cost(0, 0);
        y.feed('f', 1);
        y.wipe();
        is("what is no DEED leaves it", y.count(3), 0);
        is("till then", y.snap(0), TORN);
    }

    private void tearLeftByRefused() {
        says(0, TEAR);
        TornLayers x = layers(-1, 0);
        x.write(0, 0, 1);
        torn(x, 1);
        is("BAD", x.write(0, 64, 1), BAD);
        is("left", x.count(3), 1);
        is("STATE", x.merge(0), STATE);
        is("left", x.count(3), 1);
        is("ROUND", x.move(0, 1, 1), ROUND);
        is("left", x.count(3), 1);
        leaveFree(x, 0);
        is("FULL", x.write(0, 4, 1), FULL);
        is("left", x.count(3), 1);
        is("told and refused", told(x, "d 0"), -300);
        is("left", x.count(3), 1);
        x.spoil(1, 0);
        is("a LACK", x.fold(), STATE);
        is("left", x.count(3), 1);
        x.repair();
        is("the next that isn't refused", x.snap(0), TORN);
        is("set no more", x.count(3), -1);
    }
}
