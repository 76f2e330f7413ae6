/** Promises 8 to 16: the deeds by their calls, and the tear. */
final class EdgesOfDeeds extends Edges {
    EdgesOfDeeds(Doc doc, Due due) {
        super(doc, due);
    }

    @Override
    void all() {
        write();
        writeRefused();
        snap();
        snapRefused();
        drop();
        dropRefused();
        revert();
        revertRefused();
        giveUp();
        giveUpRefused();
        merge();
        mergeRefused();
        move();
        moveRefused();
        moveRound();
        fold();
        foldRefused();
        tear();
        tearRefused();
    }

    private void write() {
        says(8, "v (0 to 255) is WRITTEN.");
        TornLayers x = layers(-1, -1, -1, -1, -1, -1);
        is("the greatest, at the first PLACE", x.write(0, 0, 255), 7);
        is("reads", x.read(0, 0), 255);
        is("the least there", x.write(0, 0, 0), 1);
        is("reads", x.read(0, 0), 0);
        is("at the last PLACE of the last LAYER", x.write(5, 63, 128), 7);
        is("reads", x.read(5, 63), 128);
        is("no other one", x.sum(4), x.sum(3));
        bad("v", Edges::one, (y, v) -> y.write(0, 0, v), -1, 256, -255, LEAST, MOST);
        TornLayers y = layers(-1);
        y.write(0, 7, 0);
        is("0 over 0 is OWN, too", y.of(0, 1), 2);
        for (int v = 0; v < 256; v += 3) {
            y.write(0, 7, v);
            is("from end to end", y.read(0, 7), v);
        }
    }

    private void writeRefused() {
        says(8, "BAD; STATE; FULL; TORN.");
        bad("no LAYER", Edges::one, (x, l) -> x.write(l, 0, 0), -1, 1, 5, 6, LEAST, MOST);
        bad("no PLACE", Edges::one, (x, place) -> x.write(0, place, 0), -1, 64, LEAST, MOST);
        leaves("a LACK", () -> lacking(one()), x -> x.write(0, 0, 0), STATE);
        leaves("a LACK elsewhere", () -> lackingSecond(), x -> x.write(0, 0, 0), STATE);
        leaves("no room for the TABLE", () -> with(layers(-1), 0), x -> x.write(0, 0, 0), FULL);
        leaves("no room for the DATA", () -> with(layers(-1), 1), x -> x.write(0, 0, 0), FULL);
        leaves("no room for the DATA alone", () -> with(one(), 0), x -> x.write(0, 4, 0), FULL);
        leaves("no room to own a TABLE", () -> with(snapped(one()), 0), x -> x.write(0, 0, 0), FULL);
        leaves("no room to own a DATA", () -> with(snapped(one()), 1), x -> x.write(0, 0, 0), FULL);
        is("just room", with(snapped(one()), 2).write(0, 0, 0), 10);
        is("none needed", with(one(), 0).write(0, 3, 0), 1);
        leaves("TORN at once", Edges::one, x -> torn(x, 0).write(0, 0, 9), TORN);
        is("TORN ahead of the last", torn(snapped(one()), 9).write(0, 0, 9), TORN);
        is("not behind it", torn(snapped(one()), 10).write(0, 0, 9), 10);
    }

    private static TornLayers lackingSecond() {
        TornLayers x = layers(-1, -1);
        x.write(1, 63, 1);
        x.spoil(2, 0);
        return x;
    }

    private static TornLayers eight() {
        TornLayers x = one();
        for (int s = 0; s < 8; s++) {
            x.snap(0);
        }
        return x;
    }

    private void snap() {
        says(9, "A LAYER is SNAPPED as the least SNAPSHOT that isn't there.");
        TornLayers x = layers(-1, -1, -1, -1, -1, -1);
        for (int s = 0; s < 8; s++) {
            is("an empty LAYER: [RECORD] alone", x.snap(5 - s % 6), 1);
            is("as " + s, x.count(1), (2 << s) - 1);
        }
        for (int s = 7; s >= 0; s--) {
            x.drop(s);
            is("without " + s, x.count(1), 255 & ~(1 << s));
            is("again", x.snap(0), 1);
            is("as " + s, x.count(1), 255);
        }
        x.drop(6);
        x.drop(2);
        x.drop(7);
        x.snap(0);
        is("the least of three", x.count(1), 255 & ~(1 << 6 | 1 << 7));
        x.snap(0);
        is("then the next", x.count(1), 255 & ~(1 << 7));
    }

    private void snapRefused() {
        says(9, "BAD; STATE: also none such; TORN.");
        bad("no LAYER", Edges::one, (x, l) -> x.snap(l), -1, 1, 5, 6, LEAST, MOST);
        leaves("a LACK", () -> lacking(one()), x -> x.snap(0), STATE);
        leaves("none such", EdgesOfDeeds::eight, x -> x.snap(0), STATE);
        leaves("none such, nor the LAYER", EdgesOfDeeds::eight, x -> x.snap(1), BAD);
        TornLayers x = eight();
        x.drop(7);
        is("one such", x.snap(0), 2);
        leaves("TORN at once", Edges::one, y -> torn(y, 0).snap(0), TORN);
        is("TORN ahead of the [RECORD]", torn(one(), 1).snap(0), TORN);
        is("not behind it", torn(one(), 2).snap(0), 2);
        is("no room is needed", with(one(), 0).snap(0), 2);
    }

    private void drop() {
        says(10, "DROP.");
        TornLayers x = eight();
        is("the last", x.drop(7), 2);
        is("no more", x.count(1), 127);
        is("the first", x.drop(0), 2);
        is("no more", x.count(1), 126);
        for (int s = 1; s < 7; s++) {
            x.drop(s);
        }
        is("none left", x.count(1), 0);
        is("the LAYER has its TABLE alone", x.cluster(1, 0), 1);
        is("reads", x.read(0, 0), 1);
        TornLayers y = snapped(layers(-1));
        is("an empty one", y.drop(0), 1);
    }

    private void dropRefused() {
        says(10, "BAD; STATE; TORN.");
        bad("no SNAPSHOT", EdgesOfDeeds::eight, (x, s) -> x.drop(s), -1, 8, 10, 17, LEAST, MOST);
        bad("not there", () -> snapped(one()), (x, s) -> x.drop(s), 1, 7);
        leaves("there no more", EdgesOfDeeds::droppedOnce, x -> x.drop(0), BAD);
        leaves("a LACK", () -> lacking(snapped(one())), x -> x.drop(0), STATE);
        leaves("a LACK, and not there", () -> lacking(snapped(one())), x -> x.drop(1), BAD);
        leaves("TORN at once", () -> snapped(one()), x -> torn(x, 0).drop(0), TORN);
        is("TORN ahead of the last", torn(snapped(one()), 1).drop(0), TORN);
        is("not behind it", torn(snapped(one()), 2).drop(0), 2);
    }

    private static TornLayers droppedOnce() {
        TornLayers x = eight();
        x.drop(0);
        return x;
    }

    private void revert() {
        says(11, "REVERT.");
        TornLayers x = layers(-1);
        for (int s = 0; s < 8; s++) {
            x.write(0, 63, 10 + s);
            x.snap(0);
        }
        for (int s = 7; s >= 0; s--) {
            is("to " + s, x.revert(s), 3);
            is("reads", x.read(0, 63), 10 + s);
            is("all are there still", x.count(1), 255);
        }
        is("to where it is", x.revert(0), 3);
        x.write(0, 63, 99);
        is("the SNAPSHOT isn't written", x.readOld(0, 63), 10);
        is("back", x.revert(0), 4);
        is("reads", x.read(0, 63), 10);
        is("nothing leaks", x.all(0), 0);
    }

    private void revertRefused() {
        says(11, "BAD; STATE; TORN.");
        bad("no SNAPSHOT", EdgesOfDeeds::eight, (x, s) -> x.revert(s), -1, 8, 10, 17, LEAST, MOST);
        bad("not there", () -> snapped(one()), (x, s) -> x.revert(s), 1, 7);
        leaves("there no more", EdgesOfDeeds::droppedOnce, x -> x.revert(0), BAD);
        leaves("a LACK", () -> lacking(snapped(one())), x -> x.revert(0), STATE);
        leaves("a LACK, and not there", () -> lacking(snapped(one())), x -> x.revert(1), BAD);
        leaves("TORN at once", () -> snapped(one()), x -> torn(x, 0).revert(0), TORN);
        is("TORN ahead of the last", torn(snapped(one()), 2).revert(0), TORN);
        is("not behind it", torn(snapped(one()), 3).revert(0), 3);
        is("no room is needed", with(snapped(one()), 0).revert(0), 3);
    }

    private static TornLayers whole() {
        TornLayers x = layers(-1, 0);
        writeAll(x, 0, 1);
        x.write(1, 0, 2);
        x.write(1, 63, 2);
        return x;
    }

    private void giveUp() {
        says(12, "GIVE UP.");
        TornLayers x = whole();
        is("the first BLOCK", x.giveUp(1, 0), 2);
        is("as in the BACKING", x.read(1, 0), 1);
        is("the last BLOCK", x.giveUp(1, 15), 2);
        is("as in the BACKING", x.read(1, 63), 1);
        is("none is OWN", x.of(1, 1), 0);
        for (int b = 0; b < 16; b++) {
            is("BLOCK " + b, x.giveUp(0, b), 2);
            is("is 0", x.read(1, 4 * b + 3), 0);
            is("no more", x.giveUp(0, b), 0);
        }
        is("the TABLES stay", x.count(2), 63 - 6);
    }

    private void giveUpRefused() {
        says(12, "BAD: b 0 to 15; STATE; FULL; TORN.");
        bad("no b", EdgesOfDeeds::whole, (x, b) -> x.giveUp(0, b), -1, 16, LEAST, MOST);
        bad("no LAYER", EdgesOfDeeds::whole, (x, l) -> x.giveUp(l, 0), -1, 2, 6, LEAST, MOST);
        leaves("a LACK", () -> lacking(one()), x -> x.giveUp(0, 0), STATE);
        leaves("a LACK, where it isn't OWN", () -> lacking(one()), x -> x.giveUp(0, 15), STATE);
        leaves("no room to own the TABLE", () -> with(snapped(one()), 0), x -> x.giveUp(0, 0), FULL);
        is("just room", with(snapped(one()), 1).giveUp(0, 0), 7);
        is("none needed", with(one(), 0).giveUp(0, 0), 2);
        leaves("TORN at once", Edges::one, x -> torn(x, 0).giveUp(0, 0), TORN);
        is("TORN ahead of the last", torn(one(), 1).giveUp(0, 0), TORN);
        is("not behind it", torn(one(), 2).giveUp(0, 0), 2);
        is("not OWN: never", torn(one(), 0).giveUp(0, 15), 0);
    }

    /** Two layers, a block in the upper one. */
    private static TornLayers upper() {
        TornLayers x = layers(-1, 0);
        x.write(1, 63, 7);
        return x;
    }

    private void merge() {
        says(13, "MERGE.");
        TornLayers x = layers(-1, 0, 1, 2, 3, 4);
        x.write(5, 63, 7);
        for (int l = 5; l > 0; l--) {
            is("down from " + l, x.merge(l), 7 + 3 + 1 + 2);
            is("not OWN there", x.of(l, 1), 0);
            is("OWN below", x.of(l - 1, 1), 1 << 15);
            is("it reads the same", x.read(5, 63), 7);
            is("BACKING stays", x.of(l, 0), l - 1);
        }
        is("nothing OWN", x.merge(5), 1);
        TornLayers y = upper();
        y.write(0, 60, 1);
        is("the BACKING has the BLOCK", y.read(1, 60), 0);
        is("it is WRITTEN over", y.merge(1), 4 + 1 + 2);
        is("all four PLACES", y.read(0, 60) * 256 + y.read(0, 63), 7);
    }

    private void mergeRefused() {
        says(13, "BAD; STATE: also no BACKING; FULL; TORN.");
        bad("no LAYER", EdgesOfDeeds::upper, (x, l) -> x.merge(l), -1, 2, 6, LEAST, MOST);
        leaves("no BACKING", EdgesOfDeeds::upper, x -> x.merge(0), STATE);
        leaves("a LACK", () -> lacking(upper()), x -> x.merge(1), STATE);
        leaves("a LACK and no BACKING: once", () -> lacking(upper()), x -> x.merge(0), STATE);
        leaves("no room", () -> with(upper(), 1), x -> x.merge(1), FULL);
        leaves("none at all", () -> with(upper(), 0), x -> x.merge(1), FULL);
        is("just room", with(upper(), 2).merge(1), 13);
        is("none needed", with(layers(-1, 0), 0).merge(1), 1);
        leaves("TORN at once", EdgesOfDeeds::upper, x -> torn(x, 0).merge(1), TORN);
        is("TORN ahead of the last", torn(upper(), 12).merge(1), TORN);
        is("not behind it", torn(upper(), 13).merge(1), 13);
        TornLayers x = layers(-1, 0);
        x.move(1, -1, 0);
        is("no BACKING more", x.merge(1), STATE);
        x.move(1, 0, 0);
        is("one again", x.merge(1), 1);
    }

    /** Layer 1 on 0, which has a block; 2 is empty. */
    private static TornLayers three() {
        TornLayers x = layers(-1, 0, -1);
        x.write(0, 63, 7);
        return x;
    }

    private void move() {
        says(14, "MOVE onto a BACKING (or NONE), safely (1) or not (0).");
        TornLayers x = three();
        is("safely", x.move(1, 2, 1), 11);
        is("as it was", x.read(1, 63), 7);
        is("its BACKING", x.of(1, 0), 2);
        TornLayers y = three();
        is("not", y.move(1, 2, 0), 1);
        is("as the new one is", y.read(1, 63), 0);
        is("its BACKING", y.of(1, 0), 2);
        TornLayers z = three();
        is("onto NONE, safely", z.move(1, -1, 1), 11);
        is("as it was", z.read(1, 63), 7);
        is("its BACKING", z.of(1, 0), -1);
        TornLayers w = three();
        is("onto NONE, not", w.move(1, -1, 0), 1);
        is("is 0", w.read(1, 63), 0);
        is("from NONE onto NONE", w.move(2, -1, 1), 1);
        is("from NONE onto one", w.move(2, 0, 0), 1);
        is("as that is", w.read(2, 63), 7);
        is("onto the one it is on", w.move(2, 0, 1), 1);
        TornLayers last = layers(-1, -1, -1, -1, -1, -1);
        is("the last onto the first", last.move(5, 0, 1), 1);
        is("the first but one onto the last", last.move(1, 5, 1), 1);
    }

    private void moveRefused() {
        says(14, "BAD; STATE; ROUND: it is that LAYER, or one on which it stands stands on the LAYER (by any"
                + " number of BACKINGS); FULL; TORN.");
        bad("no LAYER", EdgesOfDeeds::three, (x, l) -> x.move(l, 0, 0), -1, 3, 6, LEAST, MOST);
        bad("no BACKING", EdgesOfDeeds::three, (x, b) -> x.move(1, b, 0), -2, 3, 6, LEAST, MOST);
        bad("neither safely nor not", EdgesOfDeeds::three, (x, safe) -> x.move(1, 2, safe), -1, 2, LEAST, MOST);
        leaves("a LACK", () -> lacking(three()), x -> x.move(1, 2, 1), STATE);
        leaves("a LACK, unsafely, too", () -> lacking(three()), x -> x.move(1, 2, 0), STATE);
        leaves("a LACK and ROUND", () -> lacking(three()), x -> x.move(1, 1, 0), STATE);
        leaves("no room", () -> with(three(), 1), x -> x.move(1, 2, 1), FULL);
        leaves("none at all", () -> with(three(), 0), x -> x.move(1, 2, 1), FULL);
        is("just room", with(three(), 2).move(1, 2, 1), 11);
        is("unsafely none is needed", with(three(), 0).move(1, 2, 0), 1);
        leaves("TORN at once", EdgesOfDeeds::three, x -> torn(x, 0).move(1, 2, 1), TORN);
        leaves("unsafely, too", EdgesOfDeeds::three, x -> torn(x, 0).move(1, 2, 0), TORN);
        is("TORN ahead of the [BACKING]", torn(three(), 10).move(1, 2, 1), TORN);
        is("not behind it", torn(three(), 11).move(1, 2, 1), 11);
    }

    private static TornLayers row() {
        return layers(-1, 0, 1, 2, 3, 4);
    }

    private void moveRound() {
        says(14, "BAD; STATE; ROUND: it is that LAYER, or one on which it stands stands on the LAYER (by any"
                + " number of BACKINGS); FULL; TORN.");
        for (int l = 0; l < 6; l++) {
            for (int backing = 0; backing < 6; backing++) {
                int lower = l;
                int upper = backing;
                for (int safe = 0; safe <= 1; safe++) {
                    int safely = safe;
                    if (backing >= l) {
                        leaves(l + " onto " + backing, EdgesOfDeeds::row, x -> x.move(lower, upper, safely), ROUND);
                    } else {
                        is(l + " onto " + backing, row().move(l, backing, safe), 1);
                    }
                }
            }
        }
        TornLayers x = row();
        x.move(3, -1, 0);
        is("5 stands on 0 no more", x.move(0, 5, 0), 1);
        is("but now 2 on 5", x.move(5, 2, 0), ROUND);
        is("the row is turned", x.of(2, 3), 5);
        TornLayers y = layers(-1, 0, 0);
        is("beside one another: no ROUND", y.move(1, 2, 1), 1);
        is("now it would be", y.move(2, 1, 1), ROUND);
        is("NONE never is", y.move(2, -1, 1), 1);
    }

    private void fold() {
        says(15, "FOLD.");
        TornLayers x = layers(-1, -1, -1);
        for (int l = 0; l < 3; l++) {
            for (int b = 0; b < 16; b++) {
                x.write(l, 4 * b, 255);
            }
        }
        is("48 alike", x.fold(), 47 * 3);
        is("12 TABLES and one DATA", x.count(2), 63 - 13);
        is("its COUNT", x.cluster(2, 0), 48);
        is("nothing more", x.fold(), 0);
        is("reads", x.read(0, 0) + x.read(2, 60), 510);
        is("written apart", x.write(2, 60, 1), 5);
        is("the others are as they were", x.read(2, 56), 255);
    }

    private static TornLayers alike() {
        TornLayers x = layers(-1);
        x.write(0, 0, 5);
        x.write(0, 60, 5);
        return x;
    }

    private void foldRefused() {
        says(15, "STATE; TORN.");
        leaves("a LACK", () -> lacking(alike()), x -> x.fold(), STATE);
        leaves("a LACK, nothing alike", () -> lacking(one()), x -> x.fold(), STATE);
        leaves("TORN at once", EdgesOfDeeds::alike, x -> torn(x, 0).fold(), TORN);
        is("TORN ahead of the last", torn(alike(), 2).fold(), TORN);
        is("not behind it", torn(alike(), 3).fold(), 3);
        is("none free: no room is needed", with(alike(), 0).fold(), 3);
        is("nothing alike: never", torn(one(), 0).fold(), 0);
    }

    private void tear() {
        says(16, "A TEAR of n (0 to 999) is set (in place of one ahead); n -1: none is: which was (NONE).");
        TornLayers x = layers(-1);
        is("none was", x.tear(0), -1);
        is("set", x.count(3), 0);
        is("in place of the least", x.tear(999), 0);
        is("set", x.count(3), 999);
        is("in place of the greatest", x.tear(5), 999);
        is("none is", x.tear(-1), 5);
        is("so it is", x.count(3), -1);
        is("none was", x.tear(-1), -1);
        is("not TORN", x.write(0, 0, 1), 7);
        x.tear(0);
        x.tear(1);
        is("the one in place is it", x.write(0, 0, 2), 1);
        x.tear(1);
        x.tear(0);
        is("the one in place is it", x.write(0, 0, 3), TORN);
        is("it was used up", x.tear(7), -1);
        TornLayers y = lacking(one());
        is("with a LACK, too", y.tear(3), -1);
        is("and again", y.tear(3), 3);
    }

    private void tearRefused() {
        says(16, "BAD.");
        bad("no n", Edges::one, (x, n) -> x.tear(n), -2, 1000, LEAST, MOST);
        bad("the one ahead stays", () -> torn(one(), 4), (x, n) -> x.tear(n), -2, 1000, LEAST, MOST);
    }
}
