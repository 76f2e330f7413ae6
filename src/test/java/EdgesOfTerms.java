/** The Terms but for how each deed is made of its writes. */
final class EdgesOfTerms extends Edges {
    EdgesOfTerms(Doc doc, Due due) {
        super(doc, due);
    }

    @Override
    void all() {
        refusals();
        badAheadOfAll();
        stateAheadOfFull();
        tornStays();
        noneIsNoRefusal();
        setsAsBits();
        clusters();
        sixLayers();
        neighbours();
        oldNeighbours();
        eightSnapshots();
        cellsOfTables();
        placesAndBlocks();
        whereBlocksAreTold();
        ownBlocks();
        oldBlocks();
        trueCounts();
        leakAndLack();
        allDeedsRefused();
        repaired();
        whatIsHeld();
        full();
        howManyWrites();
        inThought();
    }

    private void refusals() {
        says(0, "REFUSALS are answers below -1000: BAD -1001 (a number that may not be, nothing of that number),"
                + " FULL -1002, STATE -1003, ROUND -1004, TORN -1005 (no REFUSAL of its own: it isn't counted"
                + " as one).");
        TornLayers x = layers(-1, -1, -1, -1, -1);
        is("a number that may not be", x.read(0, 64), -1001);
        is("nothing of that number", x.read(5, 0), -1001);
        x.layer(-1);
        is("FULL", x.layer(-1), -1002);
        is("STATE", x.merge(0), -1003);
        is("ROUND", x.move(0, 0, 0), -1004);
        x.tear(0);
        is("TORN", x.snap(0), -1005);
        int[] counted = {2, 1, 1, 1};
        for (int which = 0; which < 4; which++) {
            is("counted of " + which, x.refused(which), counted[which]);
        }
        x.tear(0);
        is("TORN in a text", told(x, "s 0"), -300);
        is("neither is counted", x.refused(0) + x.refused(1) + x.refused(2) + x.refused(3), 5);
    }

    /** Six layers, eight snapshots, no cluster free, a full tape, something kept, a tear. */
    private static TornLayers crowded() {
        TornLayers x = layers(-1, 0, -1, -1, -1);
        x.keep();
        x.layer(-1);
        x.write(0, 0, 1);
        x.write(1, 32, 1);
        for (int s = 0; s < 8; s++) {
            x.snap(0);
        }
        leaveFree(x, 0);
        for (int i = 0; i < 15; i++) {
            x.feed(0x20303b6620303b66L, 8);
        }
        x.tear(2);
        return x;
    }

    /** So that all DEEDS are refused, and none is free yet: the table has COUNT 5, TRUE is 9. */
    private static TornLayers crowdedAndLacking() {
        TornLayers x = crowded();
        x.spoil(1, 5);
        return x;
    }

    private void badAheadOfAll() {
        says(0, "An act tells the first that its words name, in their order; it changes nothing then but what"
                + " refused() tells");
        leaves("layer, ahead of FULL", EdgesOfTerms::crowdedAndLacking, x -> x.layer(6), BAD);
        leaves("write", EdgesOfTerms::crowdedAndLacking, x -> x.write(0, 64, 0), BAD);
        leaves("snap", EdgesOfTerms::crowdedAndLacking, x -> x.snap(6), BAD);
        leaves("drop", EdgesOfTerms::crowdedAndLacking, x -> x.drop(8), BAD);
        leaves("revert", EdgesOfTerms::crowdedAndLacking, x -> x.revert(8), BAD);
        leaves("giveUp", EdgesOfTerms::crowdedAndLacking, x -> x.giveUp(0, 16), BAD);
        leaves("merge", EdgesOfTerms::crowdedAndLacking, x -> x.merge(6), BAD);
        leaves("move, ahead of ROUND", EdgesOfTerms::crowdedAndLacking, x -> x.move(0, 0, 2), BAD);
        leaves("cost", EdgesOfTerms::crowdedAndLacking, x -> x.cost(0, 64), BAD);
        leaves("torn", EdgesOfTerms::crowdedAndLacking, x -> x.torn(0, 4, 0, 100), BAD);
        leaves("leaks", EdgesOfTerms::crowdedAndLacking, x -> x.leaks(0, 4, 100), BAD);
        leaves("behind", EdgesOfTerms::crowdedAndLacking, x -> x.behind(0, 4, 256), BAD);
        leaves("room", EdgesOfTerms::crowdedAndLacking, x -> x.room(6), BAD);
        leaves("feed, ahead of FULL", EdgesOfTerms::crowdedAndLacking, x -> x.feed(0, 9), BAD);
        leaves("best, ahead of NONE", EdgesOfTerms::crowdedAndLacking, x -> x.best(2), BAD);
        leaves("of, ahead of NONE", EdgesOfTerms::crowdedAndLacking, x -> x.of(6, 2), BAD);
    }

    private void stateAheadOfFull() {
        says(0, "An act tells the first that its words name, in their order; it changes nothing then but what"
                + " refused() tells");
        leaves("write", EdgesOfTerms::crowdedAndLacking, x -> x.write(0, 4, 0), STATE);
        leaves("write, but for that", EdgesOfTerms::crowded, x -> x.write(0, 4, 0), FULL);
        leaves("giveUp", EdgesOfTerms::crowdedAndLacking, x -> x.giveUp(0, 0), STATE);
        leaves("giveUp, but for that", EdgesOfTerms::crowded, x -> x.giveUp(0, 0), FULL);
        leaves("merge", EdgesOfTerms::crowdedAndLacking, x -> x.merge(1), STATE);
        leaves("merge, but for that", EdgesOfTerms::crowded, x -> x.merge(1), FULL);
        leaves("move", EdgesOfTerms::crowdedAndLacking, x -> x.move(0, 1, 1), STATE);
        leaves("move, but for that", EdgesOfTerms::crowded, x -> x.move(0, 1, 1), ROUND);
        leaves("move, nor that", EdgesOfTerms::crowded, x -> x.move(1, 2, 1), FULL);
        leaves("cost", EdgesOfTerms::crowdedAndLacking, x -> x.cost(0, 4), STATE);
        leaves("cost, but for that", EdgesOfTerms::crowded, x -> x.cost(0, 4), FULL);
        leaves("torn", EdgesOfTerms::crowdedAndLacking, x -> x.torn(0, 4, 1, 0), STATE);
        leaves("torn, but for that", EdgesOfTerms::crowded, x -> x.torn(0, 4, 1, 0), FULL);
        leaves("leaks", EdgesOfTerms::crowdedAndLacking, x -> x.leaks(0, 4, 0), STATE);
        leaves("leaks, but for that", EdgesOfTerms::crowded, x -> x.leaks(0, 4, 0), FULL);
        leaves("behind", EdgesOfTerms::crowdedAndLacking, x -> x.behind(0, 4, 1), STATE);
        leaves("behind, but for that", EdgesOfTerms::crowded, x -> x.behind(0, 4, 1), FULL);
        leaves("snap", EdgesOfTerms::crowded, x -> x.snap(0), STATE);
        leaves("layer", EdgesOfTerms::crowded, x -> x.layer(0), FULL);
        leaves("feed", EdgesOfTerms::crowded, x -> x.feed(0, 1), FULL);
        leaves("again", () -> layers(-1), x -> x.again(), STATE);
    }

    private void tornStays() {
        says(0, "(TORN: what was written stays).");
        TornLayers x = torn(layers(-1), 4);
        is("torn behind four", x.write(0, 0, 9), TORN);
        is("the table is named", x.holds(0), set(1));
        is("COUNT of the DATA to be", x.cluster(2, 0), 1);
        is("as a LEAK", x.all(0), set(2));
        is("four were done", x.count(5), 4);
    }

    private void noneIsNoRefusal() {
        says(0, "NONE is -1 (no REFUSAL).");
        is("the constant", TornLayers.NONE, -1);
        leaves("unlike", Edges::one, x -> x.unlike(0, 0), -1);
        leaves("of, 0", Edges::one, x -> x.of(0, 0), -1);
        leaves("of, 2: no room", () -> with(one(), 17), x -> x.of(0, 2), -1);
        leaves("of, 2: DEEDS are refused", () -> lacking(one()), x -> x.of(0, 2), -1);
        leaves("best: none is there", Edges::one, x -> x.best(0), -1);
        leaves("best: DEEDS are refused", () -> lacking(snapped(one())), x -> x.best(1), -1);
        leaves("behind", Edges::one, x -> x.behind(0, 0, 1), -1);
        leaves("tear", Edges::one, x -> x.tear(-1), -1);
        leaves("count", Edges::one, x -> x.count(3), -1);
    }

    private void setsAsBits() {
        says(0, "Sets are told as bits.");
        TornLayers x = layers(-1, -1, -1, -1, -1, -1);
        is("no block", x.of(5, 1), 0);
        x.write(5, 63, 1);
        is("the last block", x.of(5, 1), 1 << 15);
        x.write(5, 0, 1);
        is("the first, too", x.of(5, 1), 1 << 15 | 1);
        is("no snapshot", x.count(1), 0);
        x.snap(5);
        is("the first", x.count(1), 1);
        for (int s = 1; s < 8; s++) {
            x.snap(5);
            x.drop(s - 1);
            x.snap(0);
        }
        is("all", x.count(1), 255);
        for (int s = 0; s < 7; s++) {
            x.drop(s);
        }
        is("the last", x.count(1), 128);
        is("the last layer, the last snapshot", x.holders(1), 1 << 5 | 1 << 17);
        is("clusters 5 to 63", x.all(2), -1L << 5);
    }

    private void clusters() {
        says(0, "1. CLUSTERS 1 to 63, each with 4 CELLS (0 to 255; 0 at first) and a COUNT (0 at first; 0: it"
                + " is free).");
        TornLayers x = layers(-1);
        for (int c = 1; c < 64; c++) {
            for (int what = 0; what <= 5; what++) {
                is("at first, " + c + ", " + what, x.cluster(c, what), 0);
            }
        }
        is("63 are free", x.count(2), 63);
        bad("there is none", Edges::one, (y, c) -> y.cluster(c, 0), 0, 64, -1, LEAST, MOST);
        x.spoil(63, 1);
        is("a COUNT of 1: not free", x.count(2), 62);
        x.spoil(63, 0);
        is("of 0: free", x.count(2), 63);
        x.write(0, 3, 255);
        x.write(0, 0, 0);
        is("the greatest in the last CELL", x.cluster(2, 5), 255);
        is("the least in the first", x.cluster(2, 2), 0);
        x.spoil(62, 1);
        TornLayers y = layers(-1);
        for (int c = 1; c < 62; c++) {
            y.spoil(c, 1);
        }
        y.write(0, 0, 255);
        is("the last ones are used", y.holds(0), set(62, 63));
        is("the last one is the DATA", y.cluster(63, 2), 255);
        is("a CELL names it", y.cluster(62, 2), 63);
        is("then there is none", y.write(0, 4, 1), FULL);
    }

    private static final String LAYERS = "LAYERS 0, 1, .. (6 at most), each with a BACKING (a LAYER, or NONE)"
            + " and a DIRECTORY: 4 numbers of CLUSTERS (TABLES; 0: none).";

    private void sixLayers() {
        says(0, LAYERS);
        TornLayers x = new TornLayers();
        int[] backings = {-1, 0, 1, 2, 3, 4};
        for (int l = 0; l < 6; l++) {
            is("number", x.layer(backings[l]), l);
            is("BACKING", x.of(l, 0), backings[l]);
            is("no TABLES at first", x.holds(l), 0);
        }
        is("a seventh", x.layer(-1), FULL);
        is("six", x.count(0), 6);
        TornLayers y = tables(4);
        is("four TABLES and what they name", y.holds(0), set(1, 2, 3, 4, 5, 6, 7, 8));
        writeAll(y, 0, 1);
        is("never more than four, and sixteen DATA", y.count(2), 63 - 20);
    }

    /** Six layers in a row, each with its first and its last block. */
    private static TornLayers rowOfSix() {
        TornLayers x = layers(-1, 0, 1, 2, 3, 4);
        for (int l = 0; l < 6; l++) {
            x.write(l, 0, 10 + l);
            x.write(l, 63, 20 + l);
        }
        return x;
    }

    private interface OnLayer {
        int on(TornLayers x, int l);
    }

    private void neighbours() {
        says(0, LAYERS);
        OnLayer[] deeds = {(x, l) -> x.write(l, 1, 1), (x, l) -> x.snap(l), (x, l) -> x.giveUp(l, 0),
            (x, l) -> x.giveUp(l, 15), (x, l) -> x.merge(l), (x, l) -> x.move(l, -1, 1), (x, l) -> x.fold()};
        int[] writes = {1, 3, 2, 2, 8 + 1 + 4, 1, 0};
        for (int l = 1; l < 6; l++) {
            for (int i = 0; i < deeds.length; i++) {
                TornLayers x = rowOfSix();
                TornLayers before = rowOfSix();
                is("deed " + i + " on " + l, deeds[i].on(x, l), writes[i]);
                for (int other = 0; other < 6; other++) {
                    if (other != l) {
                        is("DIRECTORY of " + other, x.holds(other), before.holds(other));
                        is("OWN BLOCKS of " + other, x.of(other, 1), 1 | 1 << 15);
                    }
                }
                is("no LEAK", x.all(0), 0);
                is("no LACK", x.all(1), 0);
            }
        }
    }

    private static final String SNAPSHOTS = "SNAPSHOTS 0 to 7, there or not (not at first), each of a LAYER,"
            + " with a DIRECTORY of its own.";

    private void oldNeighbours() {
        says(0, SNAPSHOTS);
        for (int s = 0; s < 8; s++) {
            for (int drop = 0; drop <= 1; drop++) {
                TornLayers x = rowOfSix();
                for (int i = 0; i < 8; i++) {
                    x.snap(i % 6);
                }
                is(s + (drop == 1 ? " dropped" : " reverted to"), drop == 1 ? x.drop(s) : x.revert(s), 5 - 2 * drop);
                for (int other = 0; other < 8; other++) {
                    long held = x.holds(other % 6);
                    is("DIRECTORY of " + other, x.holds(10 + other), drop == 1 && other == s ? 0 : held);
                }
                is("no LEAK", x.all(0), 0);
                is("no LACK", x.all(1), 0);
            }
        }
    }

    private void eightSnapshots() {
        says(0, SNAPSHOTS);
        TornLayers x = layers(-1, -1);
        is("not at first", x.count(1), 0);
        for (int s = 0; s < 8; s++) {
            is("not at first: " + s, x.readOld(s, 0), BAD);
        }
        for (int s = 0; s < 8; s++) {
            x.write(s % 2, 0, 10 + s);
            x.snap(s % 2);
            is("there", x.count(1), (2 << s) - 1);
        }
        is("no ninth", x.snap(0), STATE);
        x.write(0, 0, 99);
        x.write(1, 0, 99);
        for (int s = 0; s < 8; s++) {
            is("as its own DIRECTORY tells: " + s, x.readOld(s, 0), 10 + s);
        }
        bad("none such", () -> snapped(one()), (y, s) -> y.readOld(s, 0), -1, 1, 7, 8, LEAST, MOST);
        x.revert(6);
        is("of its LAYER", x.read(0, 0), 16);
        is("not of another", x.read(1, 0), 99);
    }

    private void cellsOfTables() {
        says(0, "CELLS of a TABLE are numbers of CLUSTERS (DATA; 0: none).");
        TornLayers x = cells(0);
        for (int i = 0; i < 4; i++) {
            is("none", x.cluster(1, 2 + i), 0);
        }
        x = cells(4);
        for (int i = 0; i < 4; i++) {
            is("CELL " + i, x.cluster(1, 2 + i), 2 + i);
        }
        x.giveUp(0, 3);
        is("none again", x.cluster(1, 5), 0);
    }

    private void placesAndBlocks() {
        says(0, "A LAYER has PLACES 0 to 63, in BLOCKS of four (BLOCK b: PLACES 4 b to 4 b + 3):");
        for (int b = 0; b < 16; b++) {
            for (int i = 0; i < 4; i++) {
                TornLayers x = layers(-1);
                x.write(0, 4 * b + i, 9);
                is("BLOCK of PLACE " + (4 * b + i), x.of(0, 1), 1 << b);
                is("CELL of it", x.cluster(2, 2 + i), 9);
                is("the first PLACE of the BLOCK", x.cost(0, 4 * b), 1);
                is("the last one", x.cost(0, 4 * b + 3), 1);
                is("the one ahead", x.cost(0, 4 * b - 1), b == 0 ? BAD : b % 4 == 0 ? 7 : 4);
                is("the one behind", x.cost(0, 4 * b + 4), b == 15 ? BAD : b % 4 == 3 ? 7 : 4);
            }
        }
        bad("no PLACE", Edges::one, (x, place) -> x.read(0, place), -1, 64, LEAST, MOST);
    }

    private void whereBlocksAreTold() {
        says(0, "BLOCK b is told by number b / 4 of its DIRECTORY (cut), there by CELL b modulo 4;");
        for (int b = 0; b < 16; b++) {
            TornLayers x = layers(-1);
            x.write(0, 4 * b, 9);
            for (int i = 0; i < 4; i++) {
                is("CELL " + i + " of the TABLE of BLOCK " + b, x.cluster(1, 2 + i), i == b % 4 ? 2 : 0);
            }
            for (int other = 0; other < 16; other++) {
                int same = other == b ? 1 : 4;
                is("BLOCK " + other + " by BLOCK " + b, x.cost(0, 4 * other), other / 4 == b / 4 ? same : 7);
            }
        }
    }

    private void ownBlocks() {
        says(0, "where both aren't 0, the BLOCK is OWN, its PLACES are the CELLS of that DATA; else they are"
                + " what they are in the BACKING (NONE: 0).");
        TornLayers x = layers(-1, 0);
        is("NONE, no TABLE", x.read(0, 0), 0);
        x.write(0, 0, 7);
        x.write(0, 1, 8);
        is("no TABLE", x.read(1, 0), 7);
        torn(x, 3);
        x.write(1, 1, 9);
        is("a TABLE with no CELL", x.holds(1), set(3));
        is("isn't OWN", x.of(1, 1), 0);
        is("so it is as in the BACKING", x.read(1, 1), 8);
        torn(x, 3);
        x.write(1, 1, 9);
        is("with the CELL", x.of(1, 1), 1);
        x.write(0, 0, 70);
        is("it is as its own DATA", x.read(1, 0), 7);
        x.write(1, 0, 0);
        is("0, too", x.read(1, 0), 0);
        x.giveUp(0, 0);
        is("NONE, a TABLE with no CELL", x.read(0, 0), 0);
        TornLayers y = layers(-1, -1, 1);
        y.write(0, 4, 5);
        is("by its own BACKING alone", y.read(2, 4), 0);
    }

    private void oldBlocks() {
        says(0, "Of a SNAPSHOT likewise by its DIRECTORY, with the BACKING that its LAYER has now.");
        TornLayers x = layers(-1, -1, 0);
        x.write(0, 0, 7);
        x.write(1, 0, 8);
        x.snap(2);
        x.write(2, 0, 9);
        is("no TABLE: the BACKING's", x.readOld(0, 0), 7);
        x.write(0, 0, 17);
        is("as the BACKING is now", x.readOld(0, 0), 17);
        x.move(2, 1, 0);
        is("of the BACKING that there is now", x.readOld(0, 0), 8);
        x.move(2, -1, 0);
        is("NONE", x.readOld(0, 0), 0);
        x.snap(2);
        x.move(2, 0, 0);
        is("OWN there", x.readOld(1, 0), 9);
        is("not OWN there", x.readOld(0, 0), 17);
        x.giveUp(2, 0);
        x.snap(2);
        is("a TABLE with no CELL", x.readOld(2, 0), 17);
        is("the last PLACE", x.readOld(2, 63), 0);
    }

    private void trueCounts() {
        says(0, "2. TRUE COUNT of a CLUSTER: how many numbers in DIRECTORIES (of LAYERS, SNAPSHOTS that are"
                + " there) name it, and how many CELLS of TABLES that such name (each TABLE once).");
        TornLayers x = one();
        for (int s = 0; s < 8; s++) {
            is("a LAYER and SNAPSHOTS " + s, x.cluster(1, 1), 1 + s);
            x.snap(0);
        }
        is("nine DIRECTORIES", x.cluster(1, 1), 9);
        is("one TABLE, so one CELL", x.cluster(2, 1), 1);
        x.drop(7);
        is("one that is there no more", x.cluster(1, 1), 8);
        is("what nobody names", x.cluster(3, 1), 0);
        x.spoil(3, 5);
        is("whatever its COUNT is", x.cluster(3, 1), 0);
        TornLayers y = cells(4);
        for (int i = 1; i < 4; i++) {
            y.write(0, 4 * i, 1);
        }
        y.fold();
        is("four CELLS of one TABLE", y.cluster(2, 1), 4);
        torn(snapped(y), 1);
        y.giveUp(0, 0);
        is("a CLUSTER that was counted but isn't named yet", y.cluster(3, 0) - y.cluster(3, 1), 1);
        TornLayers z = snapped(one());
        z.write(0, 0, 2);
        torn(z, 1);
        z.drop(0);
        is("CELLS of what no DIRECTORY names", z.cluster(2, 1), 0);
        is("nor it", z.cluster(1, 1), 0);
    }

    private void leakAndLack() {
        says(0, "LEAK: COUNT is above it; LACK: below it.");
        TornLayers x = snapped(one());
        is("as it is: no LEAK", x.all(0), 0);
        is("as it is: no LACK", x.all(1), 0);
        x.spoil(1, 3);
        is("one above: a LEAK", x.all(0), set(1));
        is("one above: no LACK", x.all(1), 0);
        x.spoil(1, 1);
        is("one below: no LEAK", x.all(0), 0);
        is("one below: a LACK", x.all(1), set(1));
        x.spoil(63, 1);
        is("of 0, one above", x.all(0), set(63));
        x.spoil(63, 0);
        is("of 0, as it is", x.all(0), 0);
    }

    private void allDeedsRefused() {
        says(0, "As long as there is a LACK all DEEDS are refused (STATE).");
        Call[] deeds = {x -> x.write(0, 0, 1), x -> x.snap(0), x -> x.drop(0), x -> x.revert(0),
            x -> x.giveUp(0, 15), x -> x.merge(1), x -> x.move(1, -1, 0), x -> x.fold()};
        int[] writes = {10, 2, 2, 3, 0, 1, 1, 0};
        for (int i = 0; i < deeds.length; i++) {
            leaves("deed " + i, EdgesOfTerms::withLack, deeds[i], STATE);
            TornLayers x = withLack();
            x.spoil(2, 1);
            is("no LACK: deed " + i, deeds[i].on(x), writes[i]);
        }
        String[] texts = {"w 0 0 1", "s 0", "d 0", "r 0", "g 0 15", "m 1", "f"};
        for (String text : texts) {
            TornLayers x = withLack();
            is("told: " + text, told(x, text), -300);
            is("as STATE", x.refused(2), 1);
            x.repair();
            is("REPAIRED, told: " + text, told(x, text), 1);
        }
        TornLayers y = withLack();
        is("no DEED: layer", y.layer(-1), 2);
        is("no DEED: tear", y.tear(1), -1);
        is("no DEED: read", y.read(0, 0), 1);
        is("no DEED: keep, one free that is named", y.keep(), 62);
        is("no DEED: again", y.again(), 62);
        is("no DEED: repair", y.repair(), 1);
        y.tear(-1);
        y.spoil(40, 9);
        is("a LEAK refuses none", y.write(0, 63, 1), 7);
    }

    private static TornLayers withLack() {
        TornLayers x = layers(-1, 0);
        x.write(0, 0, 1);
        x.snap(0);
        x.spoil(2, 0);
        return x;
    }

    private void repaired() {
        says(0, "REPAIR: each COUNT becomes the TRUE one.");
        TornLayers x = snapped(one());
        int[] counts = {2, 1};
        for (int c = 1; c < 64; c++) {
            x.spoil(c, c <= 2 ? 0 : 99);
        }
        x.repair();
        for (int c = 1; c < 64; c++) {
            is("COUNT of " + c, x.cluster(c, 0), c <= 2 ? counts[c - 1] : 0);
        }
        is("no LEAK", x.all(0), 0);
        is("no LACK", x.all(1), 0);
    }

    private void whatIsHeld() {
        says(0, "HOLDS of a LAYER, of a SNAPSHOT: CLUSTERS that its DIRECTORY names, and those that CELLS of"
                + " these name.");
        TornLayers x = layers(-1, 0);
        is("nothing", x.holds(0), 0);
        x.write(0, 0, 1);
        is("a TABLE and its DATA", x.holds(0), set(1, 2));
        is("not what its BACKING holds", x.holds(1), 0);
        x.snap(0);
        x.write(0, 4, 1);
        is("of a SNAPSHOT", x.holds(10), set(1, 2));
        is("the LAYER's, one shared", x.holds(0), set(2, 3, 4));
        x.giveUp(0, 0);
        x.giveUp(0, 1);
        is("a TABLE with no CELL", x.holds(0), set(3));
    }

    private void full() {
        says(0, "FULL: a DEED would need a new CLUSTER as none is free (it is asked ahead: it is gone through"
                + " in thought, the TEAR aside).");
        for (int behind = -1; behind <= 3; behind++) {
            int n = behind;
            leaves("two needed, one free", () -> torn(with(layers(-1), 1), n), x -> x.write(0, 0, 1), FULL);
            leaves("two needed, none free", () -> torn(with(layers(-1), 0), n), x -> x.write(0, 0, 1), FULL);
        }
        TornLayers x = with(layers(-1), 2);
        is("two needed, two free", x.write(0, 0, 1), 7);
        is("none needed, none free", x.write(0, 0, 2), 1);
        is("one needed, none free", x.write(0, 4, 2), FULL);
        is("SNAP needs none", x.snap(0), 2);
        is("nor DROP", x.drop(0), 2);
        is("nor FOLD", x.fold(), 0);
        is("nor GIVE UP of its own TABLE", x.giveUp(0, 0), 2);
        is("what came free is taken", x.write(0, 4, 1), 4);
        leaves("a LEAK isn't free", () -> with(layers(-1), 0), y -> y.cost(0, 0), FULL);
    }

    private void howManyWrites() {
        says(0, "deeds: how many WRITES were done.");
        TornLayers x = layers(-1, 0);
        Call[] deeds = {y -> y.write(1, 0, 1), y -> y.snap(1), y -> y.write(1, 0, 2), y -> y.revert(0),
            y -> y.drop(0), y -> y.write(1, 4, 1), y -> y.giveUp(1, 1), y -> y.merge(1),
            y -> y.move(1, -1, 1), y -> y.write(1, 63, 0), y -> y.fold()};
        for (int i = 0; i < deeds.length; i++) {
            int before = x.count(5);
            long writes = deeds[i].on(x);
            is("deed " + i, writes, x.count(5) - before);
        }
    }

    private static TornLayers thinker() {
        TornLayers x = snapped(layers(-1));
        x.keep();
        x.write(0, 0, 1);
        x.snap(0);
        x.feed('f', 1);
        return x;
    }

    private void inThought() {
        says(0, "in thought (nothing changes; the TEAR aside).");
        Call[] calls = {x -> x.cost(0, 0), x -> x.torn(0, 0, 9, 99), x -> x.torn(0, 0, 9, 0), x -> x.leaks(0, 0, 3),
            x -> x.leaks(0, 0, 99), x -> x.behind(0, 0, 9), x -> x.room(0), x -> x.of(0, 2), x -> x.best(1)};
        int[] want = {10, 9, 1, 2, 0, 10, 64, 127, 0};
        for (int i = 0; i < calls.length; i++) {
            leaves("call " + i, EdgesOfTerms::thinker, calls[i], want[i]);
            leaves("with a TEAR of 0, call " + i, () -> torn(thinker(), 0), calls[i], want[i]);
            leaves("with a TEAR of 4, call " + i, () -> torn(thinker(), 4), calls[i], want[i]);
        }
    }
}
