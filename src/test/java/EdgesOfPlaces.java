import java.math.BigInteger;

/** Promises 1 to 7: layers and places. */
final class EdgesOfPlaces extends Edges {
    EdgesOfPlaces(Doc doc, Due due) {
        super(doc, due);
    }

    @Override
    void all() {
        noLayers();
        oneMoreLayer();
        layerRefused();
        ofBackings();
        ofOwn();
        ofWrites();
        ofWritesNone();
        ofBelow();
        ofRefused();
        read();
        readRefused();
        readOld();
        readOldRefused();
        unlike();
        unlikeRefused();
        sum();
        sumRefused();
    }

    private void noLayers() {
        says(1, "No LAYERS.");
        is("none", new TornLayers().count(0), 0);
        Call[] calls = {x -> x.layer(0), x -> x.of(0, 0), x -> x.read(0, 0), x -> x.unlike(0, 0), x -> x.sum(0),
            x -> x.write(0, 0, 0), x -> x.snap(0), x -> x.giveUp(0, 0), x -> x.merge(0), x -> x.move(0, -1, 0),
            x -> x.cost(0, 0), x -> x.torn(0, 0, 0, 0), x -> x.leaks(0, 0, 0), x -> x.behind(0, 0, 0), x -> x.room(0),
            x -> x.readOld(0, 0), x -> x.drop(0), x -> x.revert(0)};
        for (int i = 0; i < calls.length; i++) {
            leaves("call " + i, TornLayers::new, calls[i], BAD);
        }
        for (int who = 0; who < 18; who++) {
            int asked = who;
            leaves("holds nothing: " + who, TornLayers::new, x -> x.holds(asked), 0);
        }
        leaves("nothing to fold", TornLayers::new, x -> x.fold(), 0);
        leaves("nothing to repair", TornLayers::new, x -> x.repair(), 0);
        leaves("nothing kept", TornLayers::new, x -> x.again(), STATE);
        leaves("an empty tape", TornLayers::new, x -> x.wipe(), 0);
        leaves("no tear", TornLayers::new, x -> x.tear(-1), -1);
    }

    private void oneMoreLayer() {
        says(2, "One more LAYER on a BACKING (NONE, or one that is there): its number.");
        TornLayers x = new TornLayers();
        is("the first, on NONE", x.layer(TornLayers.NONE), 0);
        is("on the least there", x.layer(0), 1);
        is("on the last there", x.layer(1), 2);
        is("on NONE again", x.layer(-1), 3);
        is("on one in between", x.layer(2), 4);
        is("the sixth, on the fifth", x.layer(4), 5);
        int[] backings = {-1, 0, 1, -1, 2, 4};
        for (int l = 0; l < 6; l++) {
            is("BACKING of " + l, x.of(l, 0), backings[l]);
        }
        is("six", x.count(0), 6);
        TornLayers y = lacking(one());
        is("with a LACK, too, since it is no DEED", y.layer(0), 1);
        TornLayers z = torn(with(layers(-1), 0), 0);
        is("with none free, too, and a TEAR", z.layer(0), 1);
        is("which stays", z.count(3), 0);
        is("no WRITES", z.count(5), 0);
    }

    private void layerRefused() {
        says(2, "BAD; FULL: 6.");
        bad("on none such", TornLayers::new, (x, b) -> x.layer(b), 0, -2, 5, 6, LEAST, MOST);
        bad("on itself to be, or beyond", () -> layers(-1, 0), (x, b) -> x.layer(b), 2, 3, -2, LEAST, MOST);
        leaves("a seventh on NONE", () -> layers(-1, -1, -1, -1, -1, -1), x -> x.layer(-1), FULL);
        leaves("a seventh on 5", () -> layers(-1, -1, -1, -1, -1, -1), x -> x.layer(5), FULL);
        leaves("a seventh on 6: BAD", () -> layers(-1, -1, -1, -1, -1, -1), x -> x.layer(6), BAD);
        leaves("a seventh on -2: BAD", () -> layers(-1, -1, -1, -1, -1, -1), x -> x.layer(-2), BAD);
        is("a sixth isn't", layers(-1, -1, -1, -1, -1).layer(-1), 5);
    }

    private static final String OF = "Of a LAYER: 0 BACKING, 1 OWN BLOCKS (a set), 2 how many WRITES it would"
            + " take to write all PLACES of it"
            + " (once each, in order, by what they are; NONE: there is no room, or DEEDS are refused), 3 how"
            + " many LAYERS are below it.";

    private void ofBackings() {
        says(3, OF);
        TornLayers x = layers(-1, -1, 1);
        is("NONE", x.of(0, 0), -1);
        is("one", x.of(2, 0), 1);
        x.move(2, 0, 0);
        is("moved", x.of(2, 0), 0);
        x.move(2, -1, 0);
        is("onto NONE", x.of(2, 0), -1);
    }

    private void ofOwn() {
        says(3, OF);
        TornLayers x = layers(-1, 0);
        is("none", x.of(0, 1), 0);
        int set = 0;
        for (int b = 0; b < 16; b++) {
            x.write(0, 4 * b + b % 4, 0);
            set |= 1 << b;
            is("up to " + b, x.of(0, 1), set);
        }
        is("all", x.of(0, 1), 65535);
        is("not of the one above", x.of(1, 1), 0);
        for (int b = 0; b < 16; b++) {
            x.giveUp(0, b);
            set &= ~(1 << b);
            is("without " + b, x.of(0, 1), set);
        }
    }

    private void ofWrites() {
        says(3, OF);
        is("nothing there", layers(-1).of(0, 2), 4 * 3 + 16 * 3 + 64);
        is("the same with a BACKING", layers(-1, 0).of(1, 2), 124);
        is("a TABLE there", cells(0).of(0, 2), 121);
        is("a BLOCK, too", one().of(0, 2), 118);
        TornLayers x = layers(-1);
        writeAll(x, 0, 1);
        is("all there", x.of(0, 2), 64);
        x.snap(0);
        is("all shared: TABLES with their four, BLOCKS", x.of(0, 2), 4 * 8 + 16 * 4 + 64);
        TornLayers y = snapped(cells(0));
        is("a shared TABLE with none", y.of(0, 2), 4 + 3 * 3 + 16 * 3 + 64);
        TornLayers z = cells(4);
        for (int i = 1; i < 4; i++) {
            z.write(0, 4 * i, 1);
        }
        z.fold();
        is("four BLOCKS in one DATA: three are made, the last has it alone", z.of(0, 2), 3 * 3 + 12 * 3 + 3 * 4 + 64);
    }

    private void ofWritesNone() {
        says(3, OF);
        is("just room", with(layers(-1), 20).of(0, 2), 124);
        leaves("one too few", () -> with(layers(-1), 19), x -> x.of(0, 2), NONE);
        leaves("none free", () -> with(layers(-1), 0), x -> x.of(0, 2), NONE);
        TornLayers x = layers(-1);
        writeAll(x, 0, 1);
        leaveFree(x, 0);
        is("none free, none needed", x.of(0, 2), 64);
        x.snap(0);
        is("now needed", x.of(0, 2), NONE);
        leaves("a LACK", () -> lacking(one()), y -> y.of(0, 2), NONE);
        leaves("a TEAR is aside", () -> torn(layers(-1), 0), y -> y.of(0, 2), 124);
        TornLayers y = with(layers(-1, 0), 20);
        is("room for one LAYER", y.of(1, 2), 124);
        is("is not room for less than it needs", with(y, 19).of(1, 2), NONE);
    }

    private void ofBelow() {
        says(3, OF);
        TornLayers x = layers(-1, 0, 1, 2, 3, 4);
        for (int l = 0; l < 6; l++) {
            is("a row of six, " + l, x.of(l, 3), l);
        }
        x.move(3, 0, 0);
        is("moved down", x.of(5, 3), 3);
        x.move(3, -1, 0);
        is("onto NONE", x.of(3, 3), 0);
        is("the ones above it", x.of(5, 3), 2);
        TornLayers y = layers(-1, -1, 0, 0);
        is("beside one another", y.of(3, 3), 1);
        is("alone", y.of(1, 3), 0);
    }

    private void ofRefused() {
        says(3, "BAD.");
        bad("no LAYER", Edges::one, (x, l) -> x.of(l, 0), -1, 1, 5, 6, LEAST, MOST);
        bad("no what", Edges::one, (x, what) -> x.of(0, what), -1, 4, 5, LEAST, MOST);
        leaves("the last LAYER, the last what", () -> layers(-1, 0, 1, 2, 3, 4), x -> x.of(5, 3), 5);
        leaves("one beyond", () -> layers(-1, 0, 1, 2, 3, 4), x -> x.of(6, 3), BAD);
    }

    private void read() {
        says(4, "What a PLACE of a LAYER is.");
        TornLayers x = layers(-1, 0, 1, 2, 3, 4);
        is("0 at first", x.read(5, 63), 0);
        x.write(0, 0, 255);
        x.write(0, 63, 254);
        for (int l = 0; l < 6; l++) {
            is("the first PLACE, by " + l + " BACKINGS", x.read(l, 0), 255);
            is("the last", x.read(l, 63), 254);
            is("beside the first", x.read(l, 1), 0);
            is("beside the last", x.read(l, 62), 0);
        }
        x.write(3, 0, 3);
        is("below it", x.read(2, 0), 255);
        is("above it", x.read(5, 0), 3);
        is("another BLOCK above it", x.read(5, 63), 254);
        TornLayers y = lacking(one());
        is("with a LACK", y.read(0, 0), 1);
        TornLayers z = layers(-1);
        for (int place = 0; place < 64; place++) {
            z.write(0, place, 255 - place);
        }
        for (int place = 0; place < 64; place++) {
            is("each by itself", z.read(0, place), 255 - place);
        }
    }

    private void readRefused() {
        says(4, "BAD.");
        bad("no LAYER", Edges::one, (x, l) -> x.read(l, 0), -1, 1, 5, 6, LEAST, MOST);
        bad("no PLACE", Edges::one, (x, place) -> x.read(0, place), -1, 64, LEAST, MOST);
        leaves("neither", Edges::one, x -> x.read(MOST, MOST), BAD);
    }

    private static TornLayers eightOld() {
        TornLayers x = layers(-1);
        for (int s = 0; s < 8; s++) {
            x.write(0, 0, 100 + s);
            x.write(0, 63, 200 + s);
            x.snap(0);
        }
        x.write(0, 0, 1);
        x.write(0, 63, 1);
        return x;
    }

    private void readOld() {
        says(5, "Of a SNAPSHOT.");
        TornLayers x = eightOld();
        for (int s = 0; s < 8; s++) {
            is("the first PLACE of " + s, x.readOld(s, 0), 100 + s);
            is("the last", x.readOld(s, 63), 200 + s);
            is("one that was never written", x.readOld(s, 32), 0);
        }
        TornLayers y = snapped(layers(-1));
        y.write(0, 0, 5);
        is("snapped with nothing there", y.readOld(0, 0), 0);
        x.spoil(1, 0);
        is("with a LACK", x.readOld(0, 0), 100);
    }

    private void readOldRefused() {
        says(5, "BAD: also one that isn't there.");
        leaves("the last one there", EdgesOfPlaces::eightOld, x -> x.readOld(7, 63), 207);
        bad("no SNAPSHOT", EdgesOfPlaces::eightOld, (x, s) -> x.readOld(s, 0), -1, 8, 10, LEAST, MOST);
        bad("no PLACE", EdgesOfPlaces::eightOld, (x, place) -> x.readOld(0, place), -1, 64, LEAST, MOST);
        bad("not there yet", () -> snapped(one()), (x, s) -> x.readOld(s, 0), 1, 7);
        leaves("not there more", () -> dropped(3), x -> x.readOld(3, 0), BAD);
        leaves("the one beside it is", () -> dropped(3), x -> x.readOld(4, 0), 104);
        leaves("no more, torn", EdgesOfPlaces::tornDrop, x -> x.readOld(0, 0), BAD);
    }

    private static TornLayers dropped(int s) {
        TornLayers x = eightOld();
        x.drop(s);
        return x;
    }

    private static TornLayers tornDrop() {
        TornLayers x = torn(snapped(one()), 1);
        x.drop(0);
        return x;
    }

    private void unlike() {
        says(6, "The first PLACE at which a LAYER isn't as another one; NONE.");
        for (int place = 0; place < 64; place++) {
            TornLayers x = layers(-1, -1);
            x.write(0, place, 1);
            is("at " + place, x.unlike(0, 1), place);
            is("the other way", x.unlike(1, 0), place);
            x.write(1, 63, 2);
            is("the first of them", x.unlike(0, 1), place);
            x.write(1, place, 1);
            is("alike but for the last", x.unlike(0, 1), place == 63 ? -1 : 63);
        }
        TornLayers y = layers(-1, 0);
        leaves("both empty", () -> layers(-1, -1), x -> x.unlike(0, 1), NONE);
        leaves("itself", Edges::one, x -> x.unlike(0, 0), NONE);
        y.write(0, 5, 5);
        is("by the BACKING", y.unlike(0, 1), -1);
        y.write(1, 4, 0);
        is("its own, but the same", y.unlike(0, 1), -1);
        TornLayers z = layers(-1, -1, -1);
        z.write(2, 0, 1);
        is("alike, whatever a third is", z.unlike(0, 1), -1);
        for (int l = 0; l < 2; l++) {
            z.write(l, 0, 1);
            z.write(l, 12, 1);
        }
        is("alike in other CLUSTERS", z.unlike(0, 1), -1);
        z.write(0, 63, 1);
        is("and then not", z.unlike(0, 1), 63);
    }

    private void unlikeRefused() {
        says(6, "BAD.");
        bad("no LAYER", Edges::one, (x, l) -> x.unlike(l, 0), -1, 1, 6, LEAST, MOST);
        bad("no other", Edges::one, (x, l) -> x.unlike(0, l), -1, 1, 6, LEAST, MOST);
        leaves("neither, once", Edges::one, x -> x.unlike(1, 1), BAD);
    }

    /** Worked out without Java's wrap-around, and cut to an int at the end alone. */
    private static int sumOf(int[] places) {
        BigInteger sum = BigInteger.ONE;
        for (int place : places) {
            sum = sum.multiply(BigInteger.valueOf(31)).add(BigInteger.valueOf(place));
        }
        return sum.intValue();
    }

    private void sum() {
        says(7, "From 1 on it becomes 31 times it and a PLACE (an int), for each PLACE of a LAYER.");
        int[] places = new int[64];
        is("all 0", layers(-1).sum(0), sumOf(places));
        TornLayers x = layers(-1);
        for (int place = 0; place < 64; place++) {
            x.write(0, place, 255);
            places[place] = 255;
            is("wrapped around, 255 up to " + place, x.sum(0), sumOf(places));
        }
        TornLayers y = layers(-1, 0);
        y.write(0, 63, 1);
        is("the last counts once", y.sum(0) - layers(-1).sum(0), 1);
        is("by the BACKING", y.sum(1), y.sum(0));
        y.write(1, 62, 1);
        is("the one ahead 31 times", y.sum(1) - y.sum(0), 31);
    }

    private void sumRefused() {
        says(7, "BAD.");
        bad("no LAYER", Edges::one, (x, l) -> x.sum(l), -1, 1, 5, 6, LEAST, MOST);
    }
}
