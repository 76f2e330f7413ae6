import java.util.Random;

/** Many long runs of drawn calls (the same ones each time), held against the plain model. */
public final class ModelTest {
    private static final int RUNS = 150;
    private static final int CALLS = 400;

    private final Due due;
    private final Random draw;
    private final String run;
    private final TornLayers x = new TornLayers();
    private final PlainModel m = new PlainModel();
    /** How often a number is drawn that may not be, in a hundred. */
    private final int wild;
    /** How often counts are spoiled or mended, and a tear is set, in a hundred deeds. */
    private final int spoils;
    private final int tears;

    private ModelTest(Due due, int seed) {
        this.due = due;
        draw = new Random(seed);
        run = "run " + seed;
        wild = seed % 4 == 0 ? 10 : 1;
        spoils = seed % 3 == 0 ? 30 : 2;
        tears = seed % 5 == 0 ? 0 : 25;
    }

    public static void main(String[] args) {
        Due due = new Due();
        for (int seed = 1; seed <= RUNS && due.allRight(); seed++) {
            new ModelTest(due, seed).go();
        }
        due.end();
    }

    private void go() {
        for (int i = draw.nextInt(6); i >= 0; i--) {
            int backing = draw.nextInt(m.count(0) + 1) - 1;
            same("layer(" + backing + ")", x.layer(backing), m.layer(backing));
        }
        if (draw.nextInt(3) == 0) {
            fillUp();
        }
        for (int i = 0; i < CALLS && due.allRight(); i++) {
            int sort = draw.nextInt(100);
            if (sort < 55) {
                deed();
            } else if (sort < 70) {
                ask();
            } else if (sort < 80) {
                think();
            } else if (sort < 90) {
                text();
            } else {
                other();
            }
            if (i % 20 == 0) {
                lookAtAll();
            }
        }
    }

    private void same(String call, long got, long want) {
        due.is(run + ": " + call, got, want);
    }

    /** Few free clusters, so that deeds come to want more. */
    private void fillUp() {
        int from = 10 + draw.nextInt(40);
        for (int c = from; c < 64; c++) {
            same("spoil(" + c + ", 1)", x.spoil(c, 1), m.spoil(c, 1));
        }
    }

    private int drawn(int bound) {
        if (draw.nextInt(100) < wild) {
            int[] odd = {-2, -1, bound, bound + 1, Integer.MIN_VALUE, Integer.MAX_VALUE, 300};
            return odd[draw.nextInt(odd.length)];
        }
        return draw.nextInt(bound);
    }

    private int aLayer() {
        return drawn(Math.max(1, m.count(0)));
    }

    private int aPlace() {
        return draw.nextBoolean() ? drawn(64) : draw.nextInt(4) * 16 + draw.nextInt(6);
    }

    private int aByte() {
        return draw.nextInt(3) == 0 ? drawn(256) : draw.nextInt(3);
    }

    private void deed() {
        if (draw.nextInt(100) < tears) {
            int n = draw.nextInt(5) == 0 ? drawn(1000) : draw.nextInt(16) - 1;
            same("tear(" + n + ")", x.tear(n), m.tear(n));
        }
        int l = aLayer();
        int s = drawn(8);
        switch (draw.nextInt(16)) {
            case 0:
            case 1:
                same("snap(" + l + ")", x.snap(l), m.snap(l));
                break;
            case 2:
                same("drop(" + s + ")", x.drop(s), m.drop(s));
                break;
            case 3:
                same("revert(" + s + ")", x.revert(s), m.revert(s));
                break;
            case 4:
            case 5: {
                int b = drawn(16);
                same("giveUp(" + l + ", " + b + ")", x.giveUp(l, b), m.giveUp(l, b));
                break;
            }
            case 6:
                same("merge(" + l + ")", x.merge(l), m.merge(l));
                break;
            case 7: {
                int backing = draw.nextInt(3) == 0 ? -1 : aLayer();
                int safe = drawn(2);
                same("move(" + l + ", " + backing + ", " + safe + ")",
                        x.move(l, backing, safe), m.move(l, backing, safe));
                break;
            }
            case 8:
                same("fold()", x.fold(), m.fold());
                break;
            default: {
                int place = aPlace();
                int v = aByte();
                same("write(" + l + ", " + place + ", " + v + ")",
                        x.write(l, place, v), m.write(l, place, v));
                break;
            }
        }
        if (draw.nextInt(100) >= spoils) {
            return;
        }
        if (draw.nextBoolean()) {
            same("repair()", x.repair(), m.repair());
        } else {
            int c = drawn(64);
            int n = draw.nextInt(4) == 0 ? drawn(100) : draw.nextInt(4);
            same("spoil(" + c + ", " + n + ")", x.spoil(c, n), m.spoil(c, n));
        }
    }

    private void ask() {
        int l = aLayer();
        int other = aLayer();
        int place = aPlace();
        int s = drawn(8);
        int what = drawn(6);
        int who = drawn(18);
        int c = drawn(64);
        same("read(" + l + ", " + place + ")", x.read(l, place), m.read(l, place));
        same("readOld(" + s + ", " + place + ")", x.readOld(s, place), m.readOld(s, place));
        same("unlike(" + l + ", " + other + ")", x.unlike(l, other), m.unlike(l, other));
        same("sum(" + l + ")", x.sum(l), m.sum(l));
        same("of(" + l + ", " + what + ")", x.of(l, what), m.of(l, what));
        same("cluster(" + c + ", " + what + ")", x.cluster(c, what), m.cluster(c, what));
        same("all(" + what + ")", x.all(what), m.all(what));
        same("holds(" + who + ")", x.holds(who), m.holds(who));
        same("alone(" + who + ")", x.alone(who), m.alone(who));
        same("holders(" + c + ")", x.holders(c), m.holders(c));
        same("best(" + (what - 1) + ")", x.best(what - 1), m.best(what - 1));
        same("twins()", x.twins(), m.twins());
        same("count(" + what + ")", x.count(what), m.count(what));
        same("refused(" + what + ")", x.refused(what), m.refused(what));
    }

    private void think() {
        int l = aLayer();
        int place = aPlace();
        int v = aByte();
        int n = draw.nextInt(4) == 0 ? drawn(100) : draw.nextInt(15);
        same("cost(" + l + ", " + place + ")", x.cost(l, place), m.cost(l, place));
        same("torn(" + l + ", " + place + ", " + v + ", " + n + ")",
                x.torn(l, place, v, n), m.torn(l, place, v, n));
        same("leaks(" + l + ", " + place + ", " + n + ")",
                x.leaks(l, place, n), m.leaks(l, place, n));
        same("behind(" + l + ", " + place + ", " + v + ")",
                x.behind(l, place, v), m.behind(l, place, v));
        same("room(" + l + ")", x.room(l), m.room(l));
    }

    private void text() {
        StringBuilder told = new StringBuilder();
        for (int i = draw.nextInt(8); i >= 0; i--) {
            told.append(aTold()).append(i > 0 ? ";" : "");
        }
        if (draw.nextInt(3) == 0 && told.length() > 0) {
            int at = draw.nextInt(told.length());
            switch (draw.nextInt(4)) {
                case 0:
                    told.setLength(at);
                    break;
                case 1:
                    told.deleteCharAt(at);
                    break;
                case 2:
                    told.insert(at, "wsdrgmfx; 0189".charAt(draw.nextInt(14)));
                    break;
                default:
                    told.setCharAt(at, (char) draw.nextInt(256));
                    break;
            }
        }
        feed(told.toString());
        if (draw.nextInt(10) == 0) {
            same("wipe()", x.wipe(), m.wipe());
        } else if (draw.nextInt(5) != 0) {
            same("run() of " + told, x.run(), m.run());
        }
    }

    private String aTold() {
        int l = draw.nextInt(Math.max(1, m.count(0)));
        int s = draw.nextInt(8);
        switch (draw.nextInt(12)) {
            case 0:
                return "s " + l;
            case 1:
                return "d " + s;
            case 2:
                return "r " + s;
            case 3:
                return "g " + l + " " + draw.nextInt(17);
            case 4:
                return "m " + l;
            case 5:
                return "f";
            default:
                return "w " + l + " 0" + draw.nextInt(64) + " " + draw.nextInt(258);
        }
    }

    private void feed(String told) {
        for (int at = 0; at < told.length();) {
            int n = Math.min(1 + draw.nextInt(8), told.length() - at);
            long bytes = draw.nextLong();
            for (int i = n - 1; i >= 0; i--) {
                bytes = bytes << 8 | told.charAt(at + i);
            }
            same("feed(" + bytes + ", " + n + ")", x.feed(bytes, n), m.feed(bytes, n));
            at += n;
        }
        int odd = drawn(9);
        if (odd < 1 || odd > 8) {
            same("feed(0, " + odd + ")", x.feed(0, odd), m.feed(0, odd));
        }
    }

    private void other() {
        int backing = aLayer();
        switch (draw.nextInt(12)) {
            case 0:
                same("layer(" + backing + ")", x.layer(backing), m.layer(backing));
                break;
            case 1:
                same("keep()", x.keep(), m.keep());
                break;
            case 2:
                same("again()", x.again(), m.again());
                break;
            case 3:
            case 4:
            case 5:
                same("repair()", x.repair(), m.repair());
                break;
            default:
                ask();
                break;
        }
    }

    private void lookAtAll() {
        for (int c = 1; c < 64; c++) {
            for (int what = 0; what < 6; what++) {
                same("cluster(" + c + ", " + what + ")", x.cluster(c, what), m.cluster(c, what));
            }
        }
        for (int l = 0; l < m.count(0); l++) {
            for (int place = 0; place < 64; place++) {
                same("read(" + l + ", " + place + ")", x.read(l, place), m.read(l, place));
            }
            for (int what = 0; what < 4; what++) {
                same("of(" + l + ", " + what + ")", x.of(l, what), m.of(l, what));
            }
        }
        for (int who = 0; who < 18; who++) {
            same("holds(" + who + ")", x.holds(who), m.holds(who));
        }
        for (int what = 0; what < 6; what++) {
            same("all(" + what + ")", x.all(what), m.all(what));
            same("count(" + what + ")", x.count(what), m.count(what));
            same("refused(" + what + ")", x.refused(what), m.refused(what));
        }
    }
}
