import java.nio.charset.StandardCharsets;
import java.util.ArrayList;
import java.util.Arrays;
import java.util.HashMap;
import java.util.List;
import java.util.Map;
import java.util.TreeSet;
import java.util.function.Consumer;
import java.util.function.IntUnaryOperator;
import java.util.regex.Pattern;

/**
 * The document told a second time, slowly and otherwise: a deed is gone through once on a copy and
 * leaves a list of writes; doing it means carrying out a part of that list. Texts are judged by
 * asking a regular expression about every beginning of them.
 */
final class PlainModel {
    static final int BAD = -1001;
    static final int FULL = -1002;
    static final int STATE = -1003;
    static final int ROUND = -1004;
    static final int TORN = -1005;

    private static final class NoRoom extends RuntimeException {
        private static final long serialVersionUID = 1L;
    }

    /** One write, to be carried out on any disk that is as the one it was thought out on. */
    private interface Write extends Consumer<Disk> {
    }

    private static final class Old {
        final int layer;
        final int[] directory;

        Old(int layer, int[] directory) {
            this.layer = layer;
            this.directory = directory.clone();
        }
    }

    private static final class Disk {
        int[][] cells = new int[64][4];
        int[] counts = new int[64];
        List<int[]> directories = new ArrayList<>();
        List<Integer> backings = new ArrayList<>();
        Map<Integer, Old> olds = new HashMap<>();
        int tear = -1;

        Disk copy() {
            Disk d = new Disk();
            for (int c = 0; c < 64; c++) {
                d.cells[c] = cells[c].clone();
            }
            d.counts = counts.clone();
            for (int[] directory : directories) {
                d.directories.add(directory.clone());
            }
            d.backings = new ArrayList<>(backings);
            d.olds = new HashMap<>(olds);
            d.tear = tear;
            return d;
        }

        List<int[]> allDirectories() {
            List<int[]> every = new ArrayList<>(directories);
            for (Old old : olds.values()) {
                every.add(old.directory);
            }
            return every;
        }

        TreeSet<Integer> tables() {
            TreeSet<Integer> tables = new TreeSet<>();
            for (int[] directory : allDirectories()) {
                Arrays.stream(directory).filter(t -> t != 0).forEach(tables::add);
            }
            return tables;
        }

        TreeSet<Integer> data() {
            TreeSet<Integer> data = new TreeSet<>();
            for (int t : tables()) {
                Arrays.stream(cells[t]).filter(d -> d != 0).forEach(data::add);
            }
            return data;
        }

        int cellsNaming(int c) {
            return tables().stream()
                    .mapToInt(t -> (int) Arrays.stream(cells[t]).filter(d -> d == c).count()).sum();
        }

        int trueCount(int c) {
            return cellsNaming(c) + allDirectories().stream()
                    .mapToInt(d -> (int) Arrays.stream(d).filter(t -> t == c).count()).sum();
        }

        boolean lacks() {
            for (int c = 1; c < 64; c++) {
                if (counts[c] < trueCount(c)) {
                    return true;
                }
            }
            return false;
        }

        boolean own(int[] directory, int block) {
            int table = directory[block >> 2];
            return table != 0 && cells[table][block & 3] != 0;
        }

        int look(int[] directory, int backing, int place) {
            int block = place >> 2;
            if (own(directory, block)) {
                return cells[cells[directory[block >> 2]][block & 3]][place & 3];
            }
            return look(backing, place);
        }

        int look(int l, int place) {
            return l == -1 ? 0 : look(directories.get(l), backings.get(l), place);
        }

        int lookOld(int s, int place) {
            Old old = olds.get(s);
            return look(old.directory, backings.get(old.layer), place);
        }

        int[] lookBlock(int l, int block) {
            int[] four = new int[4];
            for (int i = 0; i < 4; i++) {
                four[i] = look(l, 4 * block + i);
            }
            return four;
        }

        TreeSet<Integer> held(int[] directory) {
            TreeSet<Integer> held = new TreeSet<>();
            for (int t : directory) {
                if (t != 0) {
                    held.add(t);
                    Arrays.stream(cells[t]).filter(d -> d != 0).forEach(held::add);
                }
            }
            return held;
        }

        int free() {
            return (int) Arrays.stream(counts, 1, 64).filter(n -> n == 0).count();
        }
    }

    /** Thinks a deed out on a copy: each write is carried out there and noted. */
    private static final class Plan {
        final Disk disk;
        final List<Write> writes = new ArrayList<>();

        Plan(Disk from) {
            disk = from.copy();
        }

        void note(Write w) {
            w.accept(disk);
            writes.add(w);
        }

        void count(int c, IntUnaryOperator change) {
            int becomes = change.applyAsInt(disk.counts[c]);
            note(d -> d.counts[c] = becomes);
        }

        void more(int c) {
            count(c, n -> n + 1);
        }

        void less(int c) {
            count(c, n -> n - 1);
        }

        void cells(int c, int[] become) {
            int[] kept = become.clone();
            note(d -> d.cells[c] = kept.clone());
        }

        void cell(int c, int i, int becomes) {
            note(d -> d.cells[c][i] = becomes);
        }

        int fresh() {
            for (int c = 1; c < 64; c++) {
                if (disk.counts[c] == 0) {
                    return c;
                }
            }
            throw new NoRoom();
        }

        int ownTable(int l, int block) {
            int at = block >> 2;
            int o = disk.directories.get(l)[at];
            if (o == 0) {
                int n = fresh();
                count(n, x -> 1);
                cells(n, new int[4]);
                note(d -> d.directories.get(l)[at] = n);
                return n;
            }
            if (disk.counts[o] > 1) {
                int n = fresh();
                count(n, x -> 1);
                cells(n, disk.cells[o]);
                for (int data : disk.cells[o].clone()) {
                    if (data != 0) {
                        more(data);
                    }
                }
                note(d -> d.directories.get(l)[at] = n);
                less(o);
                return n;
            }
            return o;
        }

        void release(int table) {
            if (table == 0) {
                return;
            }
            less(table);
            if (disk.counts[table] == 0) {
                for (int data : disk.cells[table].clone()) {
                    if (data != 0) {
                        less(data);
                    }
                }
            }
        }

        void write(int l, int place, int v) {
            int block = place >> 2;
            int[] four = disk.lookBlock(l, block);
            int table = ownTable(l, block);
            int data = disk.cells[table][block & 3];
            if (data == 0) {
                int m = fresh();
                count(m, x -> 1);
                cells(m, four);
                cell(table, block & 3, m);
                cell(m, place & 3, v);
            } else if (disk.counts[data] > 1) {
                int m = fresh();
                count(m, x -> 1);
                cells(m, disk.cells[data]);
                cell(table, block & 3, m);
                less(data);
                cell(m, place & 3, v);
            } else {
                cell(data, place & 3, v);
            }
        }

        void moreOfAll(int[] directory) {
            for (int t : directory) {
                if (t != 0) {
                    more(t);
                }
            }
        }

        void layDirectory(int l, int[] directory) {
            int[] had = disk.directories.get(l).clone();
            int[] becomes = directory.clone();
            note(d -> d.directories.set(l, becomes.clone()));
            for (int t : had) {
                release(t);
            }
        }

        void snap(int l, int s) {
            int[] directory = disk.directories.get(l).clone();
            moreOfAll(directory);
            note(d -> d.olds.put(s, new Old(l, directory)));
        }

        void drop(int s) {
            int[] had = disk.olds.get(s).directory;
            note(d -> d.olds.remove(s));
            for (int t : had) {
                release(t);
            }
        }

        void revert(int s) {
            Old old = disk.olds.get(s);
            moreOfAll(old.directory);
            layDirectory(old.layer, old.directory);
        }

        void giveUp(int l, int block) {
            if (disk.own(disk.directories.get(l), block)) {
                int table = ownTable(l, block);
                int data = disk.cells[table][block & 3];
                cell(table, block & 3, 0);
                less(data);
            }
        }

        void merge(int l) {
            for (int block = 0; block < 16; block++) {
                if (disk.own(disk.directories.get(l), block)) {
                    int[] four = disk.lookBlock(l, block);
                    for (int i = 0; i < 4; i++) {
                        write(disk.backings.get(l), 4 * block + i, four[i]);
                    }
                }
            }
            layDirectory(l, new int[4]);
        }

        void move(int l, int backing, boolean safe) {
            for (int block = 0; safe && block < 16; block++) {
                int[] was = disk.lookBlock(l, block);
                boolean own = disk.own(disk.directories.get(l), block);
                if (!own && !Arrays.equals(was, disk.lookBlock(backing, block))) {
                    for (int i = 0; i < 4; i++) {
                        write(l, 4 * block + i, was[i]);
                    }
                }
            }
            note(d -> d.backings.set(l, backing));
        }

        void fold() {
            for (int t : disk.tables()) {
                for (int i = 0; i < 4; i++) {
                    int d = disk.cells[t][i];
                    if (d == 0) {
                        continue;
                    }
                    int e = disk.data().stream()
                            .filter(x -> Arrays.equals(disk.cells[x], disk.cells[d]))
                            .findFirst().get();
                    if (e < d) {
                        more(e);
                        cell(t, i, e);
                        less(d);
                    }
                }
            }
        }
    }

    private interface Deed extends Consumer<Plan> {
    }

    private Disk disk = new Disk();
    private Disk kept = null;
    private String tape = "";
    private final Map<Integer, Integer> refusals = new HashMap<>();
    private int ever = 0;

    private int refuse(int refusal) {
        refusals.merge(refusal, 1, Integer::sum);
        return refusal;
    }

    private boolean noLayer(int l) {
        return l < 0 || l >= disk.directories.size();
    }

    private static boolean beyond(int n, int least, int most) {
        return n < least || n > most;
    }

    private Plan plan(Deed deed) {
        Plan plan = new Plan(disk);
        try {
            deed.accept(plan);
        } catch (NoRoom none) {
            return null;
        }
        return plan;
    }

    private int doDeed(Deed deed) {
        if (disk.lacks()) {
            return refuse(STATE);
        }
        Plan plan = plan(deed);
        if (plan == null) {
            return refuse(FULL);
        }
        int all = plan.writes.size();
        int some = disk.tear == -1 ? all : Math.min(all, disk.tear);
        disk.tear = -1;
        for (Write w : plan.writes.subList(0, some)) {
            w.accept(disk);
        }
        ever += some;
        return some < all ? TORN : all;
    }

    int layer(int backing) {
        if (backing != -1 && noLayer(backing)) {
            return refuse(BAD);
        }
        if (disk.directories.size() == 6) {
            return refuse(FULL);
        }
        disk.directories.add(new int[4]);
        disk.backings.add(backing);
        return disk.directories.size() - 1;
    }

    int of(int l, int what) {
        if (noLayer(l) || beyond(what, 0, 3)) {
            return refuse(BAD);
        }
        if (what == 0) {
            return disk.backings.get(l);
        }
        if (what == 1) {
            int set = 0;
            for (int b = 0; b < 16; b++) {
                set += disk.own(disk.directories.get(l), b) ? 1 << b : 0;
            }
            return set;
        }
        if (what == 2) {
            Plan plan = disk.lacks() ? null : plan(p -> {
                for (int place = 0; place < 64; place++) {
                    p.write(l, place, disk.look(l, place));
                }
            });
            return plan == null ? -1 : plan.writes.size();
        }
        return chain(l).size() - 1;
    }

    private List<Integer> chain(int l) {
        List<Integer> chain = new ArrayList<>();
        for (int x = l; x != -1; x = disk.backings.get(x)) {
            chain.add(x);
        }
        return chain;
    }

    int read(int l, int place) {
        return noLayer(l) || beyond(place, 0, 63) ? refuse(BAD) : disk.look(l, place);
    }

    int readOld(int s, int place) {
        boolean bad = !disk.olds.containsKey(s) || beyond(place, 0, 63);
        return bad ? refuse(BAD) : disk.lookOld(s, place);
    }

    private int[] bytes(int l) {
        int[] bytes = new int[64];
        for (int place = 0; place < 64; place++) {
            bytes[place] = disk.look(l, place);
        }
        return bytes;
    }

    int unlike(int l, int other) {
        return noLayer(l) || noLayer(other) ? refuse(BAD) : Arrays.mismatch(bytes(l), bytes(other));
    }

    int sum(int l) {
        return noLayer(l) ? refuse(BAD) : Arrays.hashCode(bytes(l));
    }

    int write(int l, int place, int v) {
        if (noLayer(l) || beyond(place, 0, 63) || beyond(v, 0, 255)) {
            return refuse(BAD);
        }
        return doDeed(p -> p.write(l, place, v));
    }

    int snap(int l) {
        if (noLayer(l)) {
            return refuse(BAD);
        }
        for (int s = 0; s < 8; s++) {
            if (!disk.olds.containsKey(s)) {
                int least = s;
                return doDeed(p -> p.snap(l, least));
            }
        }
        return refuse(STATE);
    }

    int drop(int s) {
        return disk.olds.containsKey(s) ? doDeed(p -> p.drop(s)) : refuse(BAD);
    }

    int revert(int s) {
        return disk.olds.containsKey(s) ? doDeed(p -> p.revert(s)) : refuse(BAD);
    }

    int giveUp(int l, int b) {
        return noLayer(l) || beyond(b, 0, 15) ? refuse(BAD) : doDeed(p -> p.giveUp(l, b));
    }

    int merge(int l) {
        if (noLayer(l)) {
            return refuse(BAD);
        }
        return disk.backings.get(l) == -1 ? refuse(STATE) : doDeed(p -> p.merge(l));
    }

    int move(int l, int backing, int safe) {
        if (noLayer(l) || backing != -1 && noLayer(backing) || beyond(safe, 0, 1)) {
            return refuse(BAD);
        }
        if (!disk.lacks() && chain(backing).contains(l)) {
            return refuse(ROUND);
        }
        return doDeed(p -> p.move(l, backing, safe == 1));
    }

    int fold() {
        return doDeed(Plan::fold);
    }

    int tear(int n) {
        if (beyond(n, -1, 999)) {
            return refuse(BAD);
        }
        int was = disk.tear;
        disk.tear = n;
        return was;
    }

    int cluster(int c, int what) {
        if (beyond(c, 1, 63) || beyond(what, 0, 5)) {
            return refuse(BAD);
        }
        if (what == 0) {
            return disk.counts[c];
        }
        return what == 1 ? disk.trueCount(c) : disk.cells[c][what - 2];
    }

    int spoil(int c, int n) {
        if (beyond(c, 1, 63) || beyond(n, 0, 99)) {
            return refuse(BAD);
        }
        int was = disk.counts[c];
        disk.counts[c] = n;
        return was;
    }

    long all(int what) {
        long set = 0;
        for (int c = 1; c < 64; c++) {
            boolean in = what == 0 && disk.counts[c] > disk.trueCount(c)
                    || what == 1 && disk.counts[c] < disk.trueCount(c)
                    || what == 2 && disk.counts[c] == 0
                    || what == 3 && disk.data().contains(c) && disk.cellsNaming(c) > 1;
            set |= in ? 1L << c : 0;
        }
        return set;
    }

    int repair() {
        int changed = 0;
        for (int c = 1; c < 64; c++) {
            int t = disk.trueCount(c);
            changed += disk.counts[c] == t ? 0 : 1;
            disk.counts[c] = t;
        }
        return changed;
    }

    private Map<Integer, TreeSet<Integer>> everyone() {
        Map<Integer, TreeSet<Integer>> everyone = new HashMap<>();
        for (int l = 0; l < disk.directories.size(); l++) {
            everyone.put(l, disk.held(disk.directories.get(l)));
        }
        disk.olds.forEach((s, old) -> everyone.put(10 + s, disk.held(old.directory)));
        return everyone;
    }

    private static long bits(Iterable<Integer> numbers) {
        long set = 0;
        for (int n : numbers) {
            set |= 1L << n;
        }
        return set;
    }

    long holds(int who) {
        return bits(everyone().getOrDefault(who, new TreeSet<>()));
    }

    long alone(int who) {
        long mine = holds(who);
        for (int other : everyone().keySet()) {
            mine &= other == who ? -1L : ~holds(other);
        }
        return mine;
    }

    int holders(int c) {
        if (beyond(c, 1, 63)) {
            return refuse(BAD);
        }
        int set = 0;
        for (Map.Entry<Integer, TreeSet<Integer>> e : everyone().entrySet()) {
            set |= e.getValue().contains(c) ? 1 << e.getKey() : 0;
        }
        return set;
    }

    int best(int what) {
        if (beyond(what, 0, 1)) {
            return refuse(BAD);
        }
        if (disk.lacks()) {
            return -1;
        }
        int which = -1;
        int most = -1;
        for (int s : new TreeSet<>(disk.olds.keySet())) {
            Disk then = plan(p -> p.drop(s)).disk;
            int freed = 0;
            for (int c = 1; c < 64; c++) {
                freed += then.counts[c] == 0 && disk.counts[c] != 0 ? 1 : 0;
            }
            if (freed > most) {
                which = s;
                most = freed;
            }
        }
        return what == 0 ? which : most;
    }

    int twins() {
        List<Integer> data = new ArrayList<>(disk.data());
        int pairs = 0;
        for (int i = 0; i < data.size(); i++) {
            for (int k = 0; k < i; k++) {
                pairs += Arrays.equals(disk.cells[data.get(i)], disk.cells[data.get(k)]) ? 1 : 0;
            }
        }
        return pairs;
    }

    /** The disk behind the first n writes of a write, or null behind a refusal that is noted. */
    private Disk tornDisk(Plan plan, int n) {
        Disk then = disk.copy();
        for (Write w : plan.writes.subList(0, Math.min(n, plan.writes.size()))) {
            w.accept(then);
        }
        return then;
    }

    private int foreseen(int l, int place, int v, int n, java.util.function.ToIntFunction<Plan> f) {
        if (noLayer(l) || beyond(place, 0, 63) || beyond(v, 0, 255) || beyond(n, 0, 99)) {
            return refuse(BAD);
        }
        if (disk.lacks()) {
            return refuse(STATE);
        }
        Plan plan = plan(p -> p.write(l, place, v));
        return plan == null ? refuse(FULL) : f.applyAsInt(plan);
    }

    int cost(int l, int place) {
        return foreseen(l, place, 0, 0, plan -> plan.writes.size());
    }

    int torn(int l, int place, int v, int n) {
        return foreseen(l, place, v, n, plan -> tornDisk(plan, n).look(l, place));
    }

    int leaks(int l, int place, int n) {
        return foreseen(l, place, 1, n, plan -> {
            Disk then = tornDisk(plan, n);
            int leaks = 0;
            for (int c = 1; c < 64; c++) {
                leaks += then.counts[c] > then.trueCount(c) ? 1 : 0;
            }
            return leaks;
        });
    }

    int behind(int l, int place, int v) {
        return foreseen(l, place, v, 0, plan -> {
            int n = disk.look(l, place) == v ? -1 : 0;
            while (n >= 0 && tornDisk(plan, n).look(l, place) != v) {
                n++;
            }
            return n;
        });
    }

    int room(int l) {
        if (noLayer(l)) {
            return refuse(BAD);
        }
        if (disk.lacks()) {
            return refuse(STATE);
        }
        int[] reached = {0};
        plan(p -> {
            for (int place = 0; place < 64; place++) {
                p.write(l, place, disk.look(l, place));
                reached[0]++;
            }
        });
        return reached[0];
    }

    int feed(long bytes, int n) {
        if (beyond(n, 1, 8)) {
            return refuse(BAD);
        }
        if (tape.length() + n > 120) {
            return refuse(FULL);
        }
        byte[] lowest = new byte[n];
        for (int i = 0; i < n; i++) {
            lowest[i] = (byte) (bytes >> 8 * i);
        }
        tape += new String(lowest, StandardCharsets.ISO_8859_1);
        return tape.length();
    }

    int wipe() {
        int had = tape.length();
        tape = "";
        return had;
    }

    private static final String NUMBER = " [0-9]{1,3}";
    private static final Pattern TEXT;

    static {
        String deed = "(w" + NUMBER.repeat(3) + "|[sdrm]" + NUMBER + "|g" + NUMBER.repeat(2) + "|f)";
        TEXT = Pattern.compile(deed + "(;" + deed + ")*");
    }

    private static boolean goesOn(String beginning) {
        java.util.regex.Matcher m = TEXT.matcher(beginning);
        return m.matches() || m.hitEnd();
    }

    int run() {
        String text = tape;
        tape = "";
        if (!TEXT.matcher(text).matches()) {
            int good = 0;
            while (good < text.length() && goesOn(text.substring(0, good + 1))) {
                good++;
            }
            return -10 - good;
        }
        String[] deeds = text.split(";");
        for (int k = 0; k < deeds.length; k++) {
            String[] words = deeds[k].split(" ");
            int[] n = Arrays.stream(words).skip(1).mapToInt(Integer::parseInt).toArray();
            if (doTold(words[0].charAt(0), n) < 0) {
                return -300 - k;
            }
        }
        return deeds.length;
    }

    private int doTold(char letter, int[] n) {
        switch (letter) {
            case 'w':
                return write(n[0], n[1], n[2]);
            case 's':
                return snap(n[0]);
            case 'd':
                return drop(n[0]);
            case 'r':
                return revert(n[0]);
            case 'g':
                return giveUp(n[0], n[1]);
            case 'm':
                return merge(n[0]);
            default:
                return fold();
        }
    }

    int keep() {
        kept = disk.copy();
        return kept.free();
    }

    int again() {
        if (kept == null) {
            return refuse(STATE);
        }
        disk = kept.copy();
        return disk.free();
    }

    int count(int what) {
        switch (what) {
            case 0:
                return disk.directories.size();
            case 1:
                return (int) bits(disk.olds.keySet());
            case 2:
                return disk.free();
            case 3:
                return disk.tear;
            case 4:
                return tape.length();
            case 5:
                return ever;
            default:
                return refuse(BAD);
        }
    }

    int refused(int which) {
        return beyond(which, 0, 3) ? refuse(BAD) : refusals.getOrDefault(-1001 - which, 0);
    }
}
