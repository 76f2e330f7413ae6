import java.util.Random;
import java.util.regex.Matcher;
import java.util.regex.Pattern;

/** Promises 31 to 37: texts, and all of it. */
final class EdgesOfTexts extends Edges {
    EdgesOfTexts(Doc doc, Due due) {
        super(doc, due);
    }

    @Override
    void all() {
        feed();
        feedOrder();
        feedRefused();
        wipe();
        runLetters();
        runNumbers();
        runLongest();
        runDone();
        runStops();
        runFaults();
        runEndsEarly();
        runEachByte();
        runDrawn();
        keep();
        keepNot();
        again();
        againRefused();
        count();
        countRefused();
        refused();
        refusedRefused();
    }

    private static TornLayers fed(int bytes) {
        TornLayers x = layers(-1);
        for (int left = bytes; left > 0; left -= 8) {
            x.feed(0x3b663b663b663b66L, Math.min(8, left));
        }
        return x;
    }

    private static final String FEED = "The n lowest bytes (1 to 8) of a number, the lowest first, come behind"
            + " THE TAPE: how many it has.";

    private void feed() {
        says(31, FEED);
        for (int n = 1; n <= 8; n++) {
            TornLayers x = new TornLayers();
            is(n + " bytes", x.feed(0, n), n);
            is(n + " more", x.feed(-1L, n), 2 * n);
            is("it has", x.count(4), 2 * n);
        }
        for (int bytes = 1; bytes <= 120; bytes++) {
            is("up to " + bytes, fed(bytes).count(4), bytes);
        }
        bad("no n", () -> fed(3), (x, n) -> x.feed(0, n), 0, 9, -1, LEAST, MOST);
    }

    /** The first sign in the lowest byte. */
    private static long packed(String text) {
        long bytes = 0;
        for (int i = text.length() - 1; i >= 0; i--) {
            bytes = bytes << 8 | text.charAt(i);
        }
        return bytes;
    }

    private void feedOrder() {
        says(31, FEED);
        TornLayers x = layers(-1);
        x.feed(packed("w 0 "), 4);
        is("behind what was there", x.feed(packed("5 7"), 3), 7);
        is("the lowest first", x.run(), 1);
        is("reads", x.read(0, 5), 7);
        is("eight", x.feed(packed("w 0 5 45"), 8), 8);
        is("the highest last", x.run(), 1);
        is("reads", x.read(0, 5), 45);
        x.feed(packed("w 0 5 99"), 7);
        is("no more than n", x.run(), 1);
        is("reads", x.read(0, 5), 9);
        x.feed(Long.MIN_VALUE | packed("s 0"), 3);
        is("of a number below 0", x.run(), 1);
        for (int i = 0; i < 8; i++) {
            long at = 0xffL << 8 * i;
            x.feed(packed("f;f;f;f;") & ~at | (0xf1L << 8 * i), 8);
            is("a byte above 127 at " + i, x.run(), -10 - i);
        }
    }

    private void feedRefused() {
        says(31, "BAD; FULL: 120.");
        leaves("none of no bytes", () -> fed(120), x -> x.feed(0, 0), BAD);
        leaves("nine, no room", () -> fed(120), x -> x.feed(0, 9), BAD);
        for (int n = 1; n <= 8; n++) {
            int bytes = n;
            leaves("full, " + n + " more", () -> fed(120), x -> x.feed(0, bytes), FULL);
            leaves("one too many of " + n, () -> fed(121 - bytes), x -> x.feed(0, bytes), FULL);
            is("just room for " + n, fed(120 - n).feed(0, n), 120);
        }
        TornLayers x = fed(120);
        x.wipe();
        is("wiped: room again", x.feed(0, 8), 8);
    }

    private void wipe() {
        says(32, "THE TAPE is empty then: how many it had.");
        leaves("none", () -> layers(-1), x -> x.wipe(), 0);
        for (int bytes = 1; bytes <= 120; bytes += 17) {
            TornLayers x = fed(bytes);
            is("had " + bytes, x.wipe(), bytes);
            is("empty", x.count(4), 0);
            is("again", x.wipe(), 0);
        }
        TornLayers y = fed(120);
        is("full", y.wipe(), 120);
        is("what it told is told no more", told(y, "s 0"), 1);
        is("one SNAPSHOT", y.count(1), 1);
    }

    private static final String TELLS = "THE TAPE, which is empty then, tells DEEDS, parted by ; : a letter and"
            + " numbers (1 to 3 digits), each with a blank ahead:"
            + " w L P V (write), s L (snap), d S (drop), r S (revert), g L B (giveUp), m L (merge), f (fold).";

    private void runLetters() {
        says(33, TELLS);
        TornLayers x = layers(-1, 0);
        is("write", told(x, "w 1 63 255"), 1);
        is("reads", x.read(1, 63), 255);
        is("snap", told(x, "s 1"), 1);
        is("there", x.count(1), 1);
        is("give up", told(x, "g 1 15"), 1);
        is("reads", x.read(1, 63), 0);
        is("revert", told(x, "r 0"), 1);
        is("reads", x.read(1, 63), 255);
        is("drop", told(x, "d 0"), 1);
        is("no more", x.count(1), 0);
        is("merge", told(x, "m 1"), 1);
        is("reads below", x.read(0, 63), 255);
        is("not OWN above", x.of(1, 1), 0);
        told(x, "w 1 63 254;w 1 63 255");
        is("fold", told(x, "f"), 1);
        is("one DATA of both LAYERS", x.holders(Long.numberOfTrailingZeros(x.all(3))), 3);
        is("all", told(x, "s 1;w 1 0 1;r 0;d 0;g 1 15;m 1;f"), 7);
        is("empty then", x.count(4), 0);
        String[] others = {"move 1 0", "v 1 0 1", "W 0 0 1", "t 1", "l 0", "k"};
        for (String other : others) {
            is("no such DEED: " + other, told(layers(-1, 0), other), -10 - (other.startsWith("m") ? 1 : 0));
        }
    }

    private void runNumbers() {
        says(33, TELLS);
        String[] texts = {"w 0 5 7", "w 0 5 07", "w 0 5 007", "w 00 5 7", "w 000 005 007"};
        for (String text : texts) {
            TornLayers x = layers(-1);
            is(text, told(x, text), 1);
            is("reads", x.read(0, 5), 7);
        }
        is("no digit", told(layers(-1), "w 0 5 "), -16);
        is("four digits", told(layers(-1), "w 0 5 0007"), -19);
        is("four digits in between", told(layers(-1), "w 0000 5 7"), -15);
        is("no blank", told(layers(-1), "w0 5 7"), -11);
        is("two blanks", told(layers(-1), "w 0  5 7"), -14);
        is("a number too few", told(layers(-1), "w 0 5;f"), -15);
        is("a number too many", told(layers(-1), "w 0 5 7 1"), -17);
        is("a number for fold", told(layers(-1), "f 0"), -11);
        is("the greatest number: BAD, no FAULT", told(layers(-1), "w 0 0 999"), -300);
        is("the greatest v", told(layers(-1), "w 0 0 255"), 1);
        is("one beyond: BAD", told(layers(-1), "w 0 0 256"), -300);
        is("the last PLACE", told(layers(-1), "w 0 63 0"), 1);
        is("one beyond: BAD", told(layers(-1), "w 0 64 0"), -300);
        is("the last BLOCK", told(layers(-1), "g 0 15"), 1);
        is("one beyond: BAD", told(layers(-1), "g 0 16"), -300);
        is("the last LAYER", told(layers(-1, 0, 1, 2, 3, 4), "s 5"), 1);
        is("one beyond: BAD", told(layers(-1, 0, 1, 2, 3, 4), "s 6"), -300);
    }

    private void runLongest() {
        says(33, TELLS);
        StringBuilder text = new StringBuilder("f");
        while (text.length() < 119) {
            text.append(";f");
        }
        is("sixty in 119 bytes", told(layers(-1), text.toString()), 60);
        is("120 bytes, all of writes", told(layers(-1), "w 0 0 1;".repeat(14) + "w 0 0 02"), 15);
        TornLayers x = layers(-1);
        is("120 bytes, the last byte counts", told(x, "w 0 0 1;".repeat(14) + "w 0 0 29"), 15);
        is("reads", x.read(0, 0), 29);
        x.feed('f', 1);
        is("a full one and then another", x.run(), 1);
    }

    private static final String DONE = "They are done one by one, as by their acts: how many were;"
            + " -300 less the number (from 0) of the first that is refused or TORN (those ahead stay done).";

    private void runDone() {
        says(33, DONE);
        TornLayers x = layers(-1);
        TornLayers y = layers(-1);
        is("four", told(x, "w 0 0 1;s 0;w 0 0 2;w 0 4 2"), 4);
        is("as by", y.write(0, 0, 1) + y.snap(0) + y.write(0, 0, 2) + y.write(0, 4, 2), 7 + 2 + 10 + 4);
        is("the same WRITES", x.count(5), y.count(5));
        is("the same places", x.sum(0), y.sum(0));
        is("the same clusters", x.all(2), y.all(2));
        is("each on what the one ahead left", x.holds(0), y.holds(0));
        TornLayers z = torn(layers(-1), 7);
        is("a TEAR that the first doesn't reach", told(z, "w 0 0 1;w 0 0 2"), 2);
        is("is set no more", z.count(3), -1);
    }

    private void runStops() {
        says(33, DONE);
        String[] refused = {"w 0 64 0", "s 9", "d 0", "r 7", "g 0 16", "m 0", "m 9"};
        int[] which = {0, 0, 0, 0, 0, 2, 0};
        for (int i = 0; i < refused.length; i++) {
            TornLayers x = layers(-1);
            is("the first", told(x, refused[i] + ";w 0 0 1"), -300);
            is("none behind it is done", x.count(5), 0);
            is("it is counted", x.refused(which[i]), 1);
            is("the tape is empty", x.count(4), 0);
            is("the third", told(x, "w 0 0 1;w 0 0 2;" + refused[i] + ";w 0 0 3"), -302);
            is("those ahead stay", x.read(0, 0), 2);
        }
        TornLayers y = with(layers(-1), 0);
        is("FULL", told(y, "f;w 0 0 1"), -301);
        is("counted", y.refused(1), 1);
        TornLayers z = torn(layers(-1), 3);
        is("TORN, the first", told(z, "w 0 0 1;w 0 0 2"), -300);
        is("what was written stays", z.holds(0), set(1));
        is("none behind it", z.read(0, 0), 0);
        torn(z, 0);
        is("the tear meets the first alone", told(z, "f;w 0 0 5"), 2);
        torn(z, 0);
        is("a refused one leaves it", told(z, "d 0;f"), -300);
        is("so it is there", z.count(3), 0);
        TornLayers w = layers(-1);
        is("the last of sixty", told(w, "f;".repeat(58) + "d 0"), -358);
        is("a LACK", told(lacking(one()), "f;f"), -300);
    }

    private static final String FAULT = "-10 less the FAULT (none is done): the place of the first byte with"
            + " which no such text goes on; how many there are, if it ends too early.";

    private void runFaults() {
        says(33, FAULT);
        String[] texts = {"q", ";", " f", "F", "ff", "f f", "f;;f", "f;q", "s;", "s0", "s  0", "s x", "s 0x",
            "s 0000", "s 0 0", "w 0 0;", "w 0 0 0 0", "g 0;", "g 0 0 0", "m 0,f", "w 0 0 1;s 0;d 0;z",
            "f;s 0;w 0 0 -1"};
        int[] places = {0, 0, 0, 0, 1, 1, 2, 2, 1, 1, 2, 2, 3,
            5, 3, 5, 7, 3, 5, 3, 16,
            12};
        for (int i = 0; i < texts.length; i++) {
            TornLayers x = torn(layers(-1), 1);
            is(texts[i], told(x, texts[i]), -10 - places[i]);
            is("none is done", x.count(5), 0);
            is("nothing is refused", x.refused(0) + x.refused(1) + x.refused(2), 0);
            is("the TEAR stays", x.count(3), 1);
            is("the tape is empty", x.count(4), 0);
        }
        is("at the last of 120", told(layers(-1), "f;".repeat(59) + "fq"), -129);
        is("with a LACK, too", told(lacking(one()), "f;q"), -12);
    }

    private void runEndsEarly() {
        says(33, FAULT);
        String[] texts = {"", "f;", "s", "s ", "w", "w ", "w 0", "w 0 ", "w 0 0", "w 0 0 ", "w 0 0 0;", "g",
            "g 0", "g 0 ", "d", "r ", "m", "f;s"};
        for (String text : texts) {
            TornLayers x = layers(-1);
            is("'" + text + "'", told(x, text), -10 - text.length());
            is("none is done", x.count(5), 0);
        }
        is("all 120", told(layers(-1), "f;".repeat(60)), -130);
        is("119", told(layers(-1), "f;".repeat(59) + "s"), -129);
    }

    private static final Pattern TEXT = text();

    private static Pattern text() {
        String number = " [0-9]{1,3}";
        String deed = "(w" + number + number + number + "|g" + number + number + "|[sdrm]" + number + "|f)";
        return Pattern.compile(deed + "(;" + deed + ")*");
    }

    /** By the library's own patterns: where a text stops being the beginning of one. */
    private static int faultOf(String text) {
        if (TEXT.matcher(text).matches()) {
            return -1;
        }
        for (int end = text.length(); end > 0; end--) {
            Matcher beginning = TEXT.matcher(text.substring(0, end));
            if (beginning.matches() || beginning.hitEnd()) {
                return end;
            }
        }
        return 0;
    }

    /** What a text answers where there are no layers: fold alone isn't refused then. */
    private static int withoutLayers(String text) {
        int fault = faultOf(text);
        if (fault >= 0) {
            return -10 - fault;
        }
        String[] deeds = text.split(";");
        for (int i = 0; i < deeds.length; i++) {
            if (!deeds[i].equals("f")) {
                return -300 - i;
            }
        }
        return deeds.length;
    }

    private void runEachByte() {
        says(33, FAULT);
        String[] beginnings = {"", "f", "f;", "w", "w ", "w 1", "w 12", "w 123", "w 1 2", "w 1 2 3", "g 1 2",
            "s 9", "m 99", "d 999", "w 1 2 3;r"};
        for (String beginning : beginnings) {
            for (int b = 0; b < 256; b++) {
                String text = beginning + (char) b;
                is("'" + beginning + "' and byte " + b, told(new TornLayers(), text), withoutLayers(text));
            }
        }
    }

    private void runDrawn() {
        says(33, FAULT);
        Random draw = new Random(33);
        String signs = "wsdrgmf;   0019;f";
        for (int run = 0; run < 4000; run++) {
            StringBuilder drawn = new StringBuilder(draw.nextBoolean() ? "f;" : "");
            for (int i = draw.nextInt(14); i > 0; i--) {
                drawn.append(signs.charAt(draw.nextInt(signs.length())));
            }
            String text = drawn.toString();
            is("drawn: " + text, told(new TornLayers(), text), withoutLayers(text));
        }
    }

    private static TornLayers kept() {
        TornLayers x = layers(-1, 0);
        x.write(0, 0, 1);
        x.snap(0);
        x.spoil(40, 3);
        x.tear(4);
        x.keep();
        return x;
    }

    private static final String KEEP = "All is kept but THE TAPE, REFUSALS, how many WRITES were done ever: how"
            + " many CLUSTERS are free.";

    private void keep() {
        says(34, KEEP);
        is("nothing there: all free", new TornLayers().keep(), 63);
        is("none free", with(layers(-1), 0).keep(), 0);
        is("one free", with(layers(-1), 1).keep(), 1);
        is("by COUNT, where a LACK is", lacking(one()).keep(), 62);
        leaves("keeping changes nothing now", () -> kept(), x -> x.keep(), 60);
        TornLayers x = kept();
        is("torn", x.write(0, 0, 2), TORN);
        x.write(0, 0, 2);
        x.move(1, -1, 0);
        x.layer(1);
        x.drop(0);
        x.spoil(40, 0);
        x.tear(999);
        x.again();
        is("LAYERS", x.count(0), 2);
        is("BACKINGS", x.of(1, 0), 0);
        is("SNAPSHOTS", x.count(1), 1);
        is("of a SNAPSHOT", x.readOld(0, 0), 1);
        is("PLACES", x.read(1, 0), 1);
        is("DIRECTORIES", x.holds(0), set(1, 2));
        is("COUNTS", x.cluster(40, 0) * 10 + x.cluster(1, 0), 32);
        is("the TEAR", x.count(3), 4);
        is("CELLS of what is free", x.cluster(4, 2), 0);
        is("no TEAR is kept as none", noTearKept().count(3), -1);
    }

    private static TornLayers noTearKept() {
        TornLayers x = layers(-1);
        x.keep();
        x.tear(5);
        x.again();
        return x;
    }

    private void keepNot() {
        says(34, KEEP);
        TornLayers x = layers(-1);
        say(x, "w 0 0 9");
        x.keep();
        x.write(0, 0, 1);
        x.read(9, 9);
        x.merge(0);
        x.wipe();
        say(x, "s 0");
        x.again();
        is("not THE TAPE", x.count(4), 3);
        is("nor what it says", x.run(), 1);
        is("that was snap", x.count(1), 1);
        is("nor REFUSALS", x.refused(0) * 10 + x.refused(2), 11);
        is("nor WRITES ever", x.count(5), 7 + 1);
        TornLayers y = fed(120);
        y.keep();
        y.wipe();
        y.again();
        is("an empty tape stays so", y.count(4), 0);
    }

    private void again() {
        says(35, "All that was kept is so again: how many CLUSTERS are free.");
        leaves("at once", () -> kept(), x -> x.again(), 60);
        TornLayers x = kept();
        x.tear(-1);
        for (int i = 0; i < 3; i++) {
            x.write(0, 4 * i, 9);
            is("as often as one likes", x.again(), 60);
            is("reads", x.read(0, 4 * i), i == 0 ? 1 : 0);
            x.tear(-1);
        }
        x.write(0, 0, 7);
        x.keep();
        x.write(0, 0, 8);
        is("what was kept last", x.again(), 58);
        is("reads", x.read(0, 0), 7);
        TornLayers y = new TornLayers();
        y.keep();
        y.layer(-1);
        y.write(0, 0, 1);
        y.snap(0);
        is("nothing at all was kept", y.again(), 63);
        is("no LAYERS", y.count(0), 0);
        is("so none such", y.read(0, 0), BAD);
        is("no SNAPSHOTS", y.count(1), 0);
        is("the first LAYER again", y.layer(-1), 0);
        is("with nothing there", y.holds(0), 0);
        is("on NONE", y.of(0, 0), -1);
        TornLayers z = lacking(snapped(one()));
        z.keep();
        z.repair();
        is("a LACK, too", z.again(), 62);
        is("is so again", z.fold(), STATE);
        is("none free", laidFull().count(2), 0);
    }

    private static TornLayers laidFull() {
        TornLayers x = with(layers(-1), 0);
        x.keep();
        x.repair();
        x.again();
        return x;
    }

    private void againRefused() {
        says(35, "STATE: nothing was.");
        leaves("of a new object", TornLayers::new, x -> x.again(), STATE);
        leaves("of one in use", () -> snapped(one()), x -> x.again(), STATE);
        TornLayers x = one();
        x.again();
        x.again();
        is("each is counted", x.refused(2), 2);
        x.keep();
        is("now something was", x.again(), 61);
        is("not counted", x.refused(2), 2);
    }

    private void count() {
        says(36, "0 LAYERS, 1 SNAPSHOTS (a set), 2 free CLUSTERS, 3 the TEAR (NONE), 4 bytes of THE TAPE, 5 how"
                + " many WRITES were done ever in deed (TORN ones, too).");
        int[] least = {0, 0, 63, -1, 0, 0};
        for (int what = 0; what <= 5; what++) {
            is("at first, " + what, new TornLayers().count(what), least[what]);
        }
        TornLayers x = layers(-1, 0, 1, 2, 3, 4);
        for (int s = 0; s < 8; s++) {
            x.snap(s % 6);
        }
        leaveFree(x, 0);
        x.tear(999);
        for (int i = 0; i < 15; i++) {
            x.feed(0, 8);
        }
        int[] most = {6, 255, 0, 999, 120, 8};
        for (int what = 0; what <= 5; what++) {
            is("at most, " + what, x.count(what), most[what]);
        }
        TornLayers y = torn(layers(-1), 3);
        y.write(0, 0, 1);
        is("TORN ones, too", y.count(5), 3);
        torn(y, 0);
        y.write(0, 0, 1);
        is("none of it", y.count(5), 3);
        y.write(0, 64, 1);
        y.merge(0);
        is("refused: none", y.count(5), 3);
        y.cost(0, 0);
        y.torn(0, 0, 1, 99);
        y.of(0, 2);
        y.best(0);
        is("in thought: none", y.count(5), 3);
        y.repair();
        y.spoil(63, 0);
        y.layer(0);
        is("no DEEDS: none", y.count(5), 3);
        y.keep();
        y.write(0, 0, 1);
        y.again();
        is("laid again: they were done", y.count(5), 7);
    }

    private void countRefused() {
        says(36, "BAD.");
        bad("no what", Edges::one, (x, what) -> x.count(what), -1, 6, LEAST, MOST);
    }

    private void refused() {
        says(37, "How many REFUSALS of a number (0 BAD to 3 ROUND) there were.");
        TornLayers x = layers(-1);
        for (int which = 0; which < 4; which++) {
            is("none of " + which, x.refused(which), 0);
        }
        for (int i = 1; i <= 40; i++) {
            x.read(1, 0);
            is("BAD", x.refused(0), i);
            x.merge(0);
            is("STATE", x.refused(2), i);
            x.move(0, 0, 1);
            is("ROUND", x.refused(3), i);
        }
        leaveFree(x, 0);
        x.write(0, 0, 1);
        is("FULL", x.refused(1), 1);
        is("asking isn't one", x.refused(0) + x.refused(2) + x.refused(3), 120);
    }

    private void refusedRefused() {
        says(37, "BAD (counted, too): another one.");
        bad("no number", Edges::one, (x, which) -> x.refused(which), -1, 4, 5, LEAST, MOST);
        TornLayers x = new TornLayers();
        x.refused(4);
        x.refused(-1);
        is("counted", x.refused(0), 2);
        is("as BAD alone", x.refused(1) + x.refused(2) + x.refused(3), 0);
    }
}
