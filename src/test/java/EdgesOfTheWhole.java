import java.util.ArrayList;
import java.util.List;
import java.util.Random;

/** What the document says ahead of its Terms: what the whole is, and how long an object is used. */
final class EdgesOfTheWhole extends Edges {
    private static final int DRAWN = 40;
    private static final int LAYERS = 3;
    /** As many as can be read in the calls that one object is used for. */
    private static final int SNAPSHOTS = 4;
    private static final int DEEDS = 9;

    EdgesOfTheWhole(Doc doc, Due due) {
        super(doc, due);
    }

    @Override
    void all() {
        twoSteps();
        sharedTillWritten();
        standingOnOthers();
        tornAnywhere();
        leaksMended();
        mergedPutGivenFolded();
        asked();
        toldAndKept();
        mostCalls();
    }

    private void twoSteps() {
        says(38, "Torn layers: bytes of layers in clusters, by tables of two steps,");
        TornLayers x = layers(-1);
        x.write(0, 37, 200);
        is("place 37 is of block 9: number 2 of the directory, a table", x.holds(0), set(1, 2));
        is("there by cell 1, a data", x.cluster(1, 2 + 1), 2);
        is("there by cell 1, a byte", x.cluster(2, 2 + 1), 200);
        is("that is what it reads", x.read(0, 37), 200);
    }

    private void sharedTillWritten() {
        says(38, "shared till they are written,");
        TornLayers x = one();
        x.snap(0);
        is("layer and snapshot hold the same", x.holds(0), x.holds(10));
        is("nothing alone", x.alone(0) | x.alone(10), 0);
        x.write(0, 0, 2);
        is("nothing in common", x.holds(0) & x.holds(10), 0);
        is("the layer's own", x.read(0, 0), 2);
        is("the snapshot's as it was", x.readOld(0, 0), 1);
    }

    private void standingOnOthers() {
        says(38, "layers that stand on others, snapshots, counts of who holds what;");
        TornLayers x = layers(-1, 0, 1);
        x.write(0, 3, 7);
        is("by two backings", x.read(2, 3), 7);
        is("held by one", x.cluster(1, 0), 1);
        x.snap(0);
        is("held by two", x.cluster(1, 0), 2);
        is("the layer and the snapshot", x.holders(1), 1 | 1 << 10);
    }

    /** Each kind of deed, in drawn states, torn behind each number of writes that it has. */
    private void tornAnywhere() {
        says(38, "each deed is made of single writes, in an order in which it can be torn behind any of them;"
                + " what is torn leaves counts too high, never too low, and reads as before or as done;");
        int torn = 0;
        int leaking = 0;
        for (int seed = 1; seed <= DRAWN; seed++) {
            for (int deed = 0; deed < DEEDS; deed++) {
                List<Integer> before = readAll(drawn(seed));
                TornLayers done = drawn(seed);
                int writes = doDrawn(done, seed, deed);
                List<Integer> after = readAll(done);
                for (int n = 0; n < writes; n++) {
                    torn++;
                    leaking += tearOnce(seed, deed, n, before, after);
                }
            }
        }
        is("deeds were torn", torn > 1000 ? 1 : 0, 1);
        is("some left counts too high", leaking > 100 ? 1 : 0, 1);
    }

    /** 1: it left a count too high. */
    private int tearOnce(int seed, int deed, int n, List<Integer> before, List<Integer> after) {
        String what = "seed " + seed + ", deed " + deed + ", torn behind " + n;
        TornLayers x = torn(drawn(seed), n);
        is(what, doDrawn(x, seed, deed), TORN);
        is(what + ": no count too low", x.all(1), 0);
        int leaks = x.all(0) != 0 ? 1 : 0;
        List<Integer> now = readAll(x);
        for (int i = 0; i < now.size(); i++) {
            boolean fine = now.get(i).equals(before.get(i)) || now.get(i).equals(after.get(i));
            is(what + ": reading " + i + " is as before or as done", fine ? 1 : 0, 1);
        }
        TornLayers mended = torn(drawn(seed), n);
        doDrawn(mended, seed, deed);
        mended.repair();
        is(what + ": all counts are true, mended", mended.all(0) | mended.all(1), 0);
        is(what + ": mending changes no reading", readAll(mended).equals(now) ? 1 : 0, 1);
        return leaks;
    }

    /** The same object for the same seed; deeds torn on the way leave leaks. */
    private static TornLayers drawn(int seed) {
        Random draw = new Random(seed);
        TornLayers x = new TornLayers();
        for (int l = 0; l < LAYERS; l++) {
            x.layer(draw.nextInt(l + 1) - 1);
        }
        for (int i = 0; i < 24; i++) {
            x.write(draw.nextInt(LAYERS), draw.nextInt(8) * 8 + draw.nextInt(4), draw.nextInt(3));
            if (i % 8 == 7) {
                x.snap(draw.nextInt(LAYERS));
                x.fold();
                x.tear(seed % 3 == 0 ? draw.nextInt(6) : -1);
            }
        }
        x.tear(-1);
        return x;
    }

    private static int doDrawn(TornLayers x, int seed, int deed) {
        Random draw = new Random(100L * seed + deed);
        int l = draw.nextInt(LAYERS);
        int s = draw.nextInt(2);
        switch (deed) {
            case 0:
                return x.write(l, draw.nextInt(64), 100);
            case 1:
                return x.snap(l);
            case 2:
                return x.drop(s);
            case 3:
                return x.revert(s);
            case 4:
                return x.giveUp(l, draw.nextInt(8) * 2);
            case 5:
                return x.merge(1 + draw.nextInt(2));
            case 6:
                return x.move(l, draw.nextInt(LAYERS + 1) - 1, 1);
            case 7:
                return x.move(l, draw.nextInt(LAYERS + 1) - 1, 0);
            default:
                return x.fold();
        }
    }

    private static List<Integer> readAll(TornLayers x) {
        List<Integer> all = new ArrayList<>();
        for (int place = 0; place < 64; place++) {
            for (int l = 0; l < LAYERS; l++) {
                all.add(x.read(l, place));
            }
            for (int s = 0; s < SNAPSHOTS; s++) {
                all.add(x.readOld(s, place));
            }
        }
        return all;
    }

    private void leaksMended() {
        says(38, "leaks found and mended, spoiled counts, too;");
        TornLayers x = torn(layers(-1), 4);
        x.write(0, 0, 1);
        is("a leak found", x.all(0), set(2));
        is("and mended", x.repair(), 1);
        x.spoil(1, 0);
        x.spoil(9, 9);
        is("a spoiled count found", x.all(1), set(1));
        is("another one", x.all(0), set(9));
        is("both mended", x.repair(), 2);
        is("nothing is left", x.all(0) | x.all(1), 0);
    }

    private void mergedPutGivenFolded() {
        says(38, "layers merged down, put on others, blocks given up, like clusters folded into one;");
        TornLayers x = layers(-1, 0, -1);
        x.write(1, 5, 9);
        is("merged down", x.merge(1), 7 + 3 + 1 + 2);
        is("there it is", x.read(0, 5), 9);
        is("put on another", x.move(2, 1, 0), 1);
        is("it reads by it", x.read(2, 5), 9);
        is("a block of its own", x.write(2, 5, 9), 7);
        is("like another", x.twins(), 1);
        is("folded into one", x.fold(), 3);
        is("which both name", Long.bitCount(x.all(3)), 1);
        is("a block given up", x.giveUp(2, 1), 2);
        is("it reads by the other again", x.of(2, 1), 0);
    }

    private void asked() {
        says(38, "what a deed takes, what it would read torn here or there, who holds what alone,"
                + " what would be free;");
        TornLayers x = snapped(one());
        is("what a deed takes", x.cost(0, 0), 5 + 4 + 1);
        is("what it would read torn here", x.torn(0, 0, 8, 9), 1);
        is("or there", x.torn(0, 0, 8, 10), 8);
        x.write(0, 0, 8);
        is("who holds what alone", x.alone(10), set(1, 2));
        is("what would be free", x.best(1), 2);
    }

    private void toldAndKept() {
        says(38, "deeds told in texts;");
        TornLayers x = layers(-1);
        is("two deeds", told(x, "w 0 5 200;s 0"), 2);
        is("the one", x.read(0, 5), 200);
        is("the other", x.count(1), 1);
        says(38, "all kept and laid again.");
        is("kept", x.keep(), 61);
        x.layer(0);
        x.drop(0);
        x.write(0, 5, 1);
        is("laid again", x.again(), 61);
        is("layers", x.count(0), 1);
        is("snapshots", x.count(1), 1);
        is("bytes", x.read(0, 5), 200);
    }

    private void mostCalls() {
        says(38, "An object is used for at most 512 calls after it has been made; what later calls answer is free.");
        TornLayers x = new TornLayers();
        is("call 1", x.layer(-1), 0);
        for (int call = 2; call < 511; call++) {
            x.write(0, call % 64, call % 256);
        }
        is("call 511", x.read(0, 510 % 64), 510 % 256);
        is("call 512", x.count(5), 509 + 20 * 3);
    }
}
