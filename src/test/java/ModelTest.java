import java.util.Map;
import java.util.Random;
import java.util.TreeMap;
import java.util.function.IntConsumer;

/** Long runs of calls on a PastTree and on the model, which must answer alike (all promises). */
public final class ModelTest {
    private static final int CALLS = 512;
    private static final int[] EDGES = {Integer.MIN_VALUE, Integer.MIN_VALUE + 1, -1, 0, 1,
        Integer.MAX_VALUE - 1, Integer.MAX_VALUE};

    private final Check check = new Check("model");
    private final TreeMap<String, Integer> used = new TreeMap<>();
    private Random random;
    private PastTree tree;
    private Model model;
    private int calls;
    private int spread;
    private String run;

    public static void main(String[] args) {
        new ModelTest().runAll();
    }

    private void runAll() {
        int[] spreads = {3, 12, 40, 120, 1000, 0};
        int[] mixes = {0, 1, 2, 3, 4, 5};
        for (int seed = 0; seed < 4; seed++) {
            for (int spread : spreads) {
                for (int mix : mixes) {
                    mixed(seed, spread, mix);
                }
            }
        }
        for (int seed = 0; seed < 12; seed++) {
            tall(seed);
            dumped(seed, seed % 2 == 0 ? this::growAndShrink : this::wander);
            dumped(seed, this::churn);
            dumped(seed, this::scatter);
        }
        full(0);
        full(1);
        String[] due = {"root with one entry dies", "leaf as root remade into one", "leaf as root remade into two",
            "leaf remade into one", "leaf remade into two", "inner page remade into one",
            "inner page remade into two", "inner page as root remade into one", "inner page as root remade into two",
            "leaf with the next one, too few", "leaf with the one before it, too few",
            "leaf with the next one, no room", "leaf with the one before it, no room",
            "inner page with the next one, too few", "inner page with the one before it, too few",
            "leaf keeps the key in the parent", "leaf has a lesser key in the parent",
            "inner page has a lesser key in the parent", "inner page alone, after one below it with its neighbour",
            "spoiled blocks are free", "log full", "refused"};
        for (String rule : due) {
            check.that("the runs came to: " + rule, used.containsKey(rule));
        }
        System.out.println(used);
        check.end();
    }

    private void begin(String name, long seed, int itsSpread) {
        run = name;
        random = new Random(seed);
        tree = new PastTree();
        model = new Model();
        calls = 0;
        spread = itsSpread;
    }

    private void finish() {
        check.that(run + ": the model's tree leads to all keys", model.leadsToAllKeys());
        for (Map.Entry<String, Integer> rule : model.used.entrySet()) {
            used.merge(rule.getKey(), rule.getValue(), Integer::sum);
        }
    }

    /** Calls of all kinds; mixes differ in how often the power goes and whether the store grows or shrinks. */
    private void mixed(int seed, int itsSpread, int mix) {
        begin("run " + seed + "/" + itsSpread + "/" + mix, 7919L * seed + 31L * itsSpread + mix, itsSpread);
        int updates = mix == 5 ? 95 : 40 + 10 * (mix % 4);
        int power = mix < 3 ? 4 : 40;
        while (calls < CALLS) {
            int dice = random.nextInt(100);
            if (!model.isUp() && random.nextInt(3) == 0) {
                start();
            } else if (dice < updates) {
                int wave = calls / 128 % 2 == 0 ? 75 : 30;
                update(wave);
            } else if (dice < updates + (100 - updates) / 3) {
                useDisk(power);
            } else {
                ask();
            }
        }
        finish();
    }

    /** The same updates on many objects, each of which then shows another part of its pages. */
    private void dumped(int seed, IntConsumer updates) {
        int shown = 0;
        int rows = 1;
        for (int turn = 0; shown < rows && turn < 400; turn++) {
            begin("dump " + seed + "/" + turn, seed, 60 + 40 * seed);
            updates.accept(seed);
            rows = 0;
            for (int p = 0; p < model.pages(); p++) {
                for (int i = 0; i <= model.page(p, 3); i++) {
                    for (int what = 0; what < 4 + (i == 0 ? 1 : 0); what++) {
                        if (rows == shown && calls < CALLS) {
                            show(p, i, what);
                            shown++;
                        }
                        rows++;
                    }
                }
            }
        }
        check.same("dump " + seed + ": rows shown", shown, rows);
        finish();
    }

    private void wander(int seed) {
        while (calls < 390 + 9 * seed) {
            update(calls / 90 % 2 == 0 ? 85 : 20 + 3 * seed);
        }
    }

    /** Keys come at one end of a part of the keys and go at the other, so that its leaves are put together often. */
    private void churn(int seed) {
        int keys = 110 + 4 * seed;
        for (int i = 0; i < keys; i++) {
            put(100 * i);
        }
        int low = 100 * (keys / 5);
        int high = 100 * (keys / 5 + 3 + seed % 4 * 5);
        int fresh = low;
        while (calls < 480) {
            fresh++;
            put(fresh);
            int last = model.next(model.version(), high);
            int gone = model.count(model.version(), low, high) < 12 ? last : nextBelow(high);
            both("remove(" + gone + ")", () -> tree.remove(gone), () -> model.remove(gone));
        }
    }

    /** Runs of keys go here and come there, so that leaves all over three levels are put together. */
    private void scatter(int seed) {
        int keys = 120 + 4 * (seed % 4);
        for (int i = 0; i < keys; i++) {
            put(100 * i);
        }
        while (calls < 470) {
            int from = random.nextInt(100 * keys);
            for (int i = 0; i < 4 + seed / 4; i++) {
                int key = keyOfLatest(from);
                both("remove(" + key + ")", () -> tree.remove(key), () -> model.remove(key));
            }
            int to = random.nextInt(100 * keys);
            for (int i = 0; i < 4 + seed / 4; i++) {
                put(to + i);
            }
        }
    }

    private int nextBelow(int high) {
        int key = high;
        while (!model.has(model.version(), key)) {
            key--;
        }
        return key;
    }

    private void tall(int seed) {
        begin("tall " + seed, seed, 400);
        growAndShrink(seed);
        while (calls < CALLS) {
            ask();
        }
        finish();
    }

    /** Three levels of pages, of which one end or the middle is then taken away, so that inner pages grow empty. */
    private void growAndShrink(int seed) {
        for (int i = 0; i < 200; i++) {
            put(seed % 3 == 0 ? i : seed % 3 == 1 ? -i : i * 77 % 401);
        }
        int from = seed / 3 % 2 == 0 ? Integer.MIN_VALUE : seed % 3 == 1 ? -120 : 60;
        while (calls < 400 && model.count(model.version(), from, Integer.MAX_VALUE) > 0) {
            int key = model.next(model.version(), from);
            both("remove(" + key + ")", () -> tree.remove(key), () -> model.remove(key));
            if (seed > 5 && random.nextInt(6) == 0) {
                update(100);
            }
        }
    }

    /**
     * No 512 calls are known that come to the last pages (194 is the most that a search found), so that this run
     * goes on for longer: keys come below and go above, which remakes two leaves with each six updates.
     */
    private void full(int pagesBefore) {
        begin("full " + pagesBefore, 0, 10);
        while (model.pages() <= pagesBefore) {
            put(0);
        }
        for (int i = 0; i < 11; i++) {
            put(-i);
        }
        while (model.pages() == 1 + pagesBefore) {
            put(0);
        }
        for (int i = 0; i < 400 && !model.used.containsKey("refused"); i++) {
            int high = -i;
            put(-11 - i);
            both("remove(" + high + ")", () -> tree.remove(high), () -> model.remove(high));
        }
        both("remove(1) as there is no such key", () -> tree.remove(1), () -> model.remove(1));
        both("pages()", () -> tree.pages(), () -> model.pages());
        both("version()", () -> tree.version(), () -> model.version());
        both("bound()", () -> tree.bound(), () -> model.bound());
        both("dense()", () -> tree.dense() ? 1 : 0, () -> model.dense() ? 1 : 0);
        finish();
    }

    private void put(int key) {
        both("put(" + key + ", 1)", () -> tree.put(key, 1), () -> model.put(key, 1));
    }

    private void show(int p, int i, int what) {
        if (i == 0) {
            both("page(" + p + ", " + what + ")", () -> tree.page(p, what), () -> model.page(p, what));
            return;
        }
        both("entry(" + p + ", " + (i - 1) + ", " + what + ")",
                () -> tree.entry(p, i - 1, what), () -> model.entry(p, i - 1, what));
    }

    private void both(String call, Check.Call one, Check.Call two) {
        calls++;
        check.same(run + " call " + calls + ": " + call, Check.answerOf(one), Check.answerOf(two));
    }

    private int key() {
        if (spread == 0) {
            return random.nextInt(3) > 0 ? random.nextInt() : EDGES[random.nextInt(EDGES.length)];
        }
        return random.nextInt(spread) - spread / 3;
    }

    private int version() {
        int latest = model.isUp() ? model.version() : 20;
        return random.nextInt(12) == 0 ? latest + 1 - random.nextInt(2) * (latest + 2) : random.nextInt(latest + 1);
    }

    private int pageNumber() {
        int made = model.isUp() ? model.pages() : 20;
        return random.nextInt(12) == 0 ? made - random.nextInt(2) * (made + 1) : random.nextInt(made);
    }

    private void update(int puts) {
        int key = key();
        if (random.nextInt(100) < puts) {
            long value = random.nextInt(3) == 0 ? random.nextLong() : random.nextInt(3);
            both("put(" + key + ", " + value + ")", () -> tree.put(key, value), () -> model.put(key, value));
            return;
        }
        int there = model.isUp() && random.nextInt(8) > 0 ? keyOfLatest(key) : key;
        both("remove(" + there + ")", () -> tree.remove(there), () -> model.remove(there));
    }

    private int keyOfLatest(int key) {
        int latest = model.version();
        if (model.count(latest, Integer.MIN_VALUE, Integer.MAX_VALUE) == 0) {
            return key;
        }
        boolean above = model.count(latest, key, Integer.MAX_VALUE) > 0;
        return model.next(latest, above ? key : Integer.MIN_VALUE);
    }

    private void start() {
        both("start()", () -> tree.start(), () -> model.start());
    }

    private void useDisk(int power) {
        int dice = random.nextInt(100);
        if (dice < 40) {
            both("sync()", () -> tree.sync(), () -> model.sync());
        } else if (dice < 40 + power) {
            int n = random.nextInt(10) - 2;
            both("cut(" + n + ")", () -> Runs.none(() -> tree.cut(n)), () -> Runs.none(() -> model.cut(n)));
        } else if (dice < 40 + power + power / 3) {
            both("down()", () -> Runs.none(tree::down), () -> Runs.none(model::down));
        } else if (dice < 94) {
            int what = random.nextInt(7) - 1;
            both("disk(" + what + ")", () -> tree.disk(what), () -> model.disk(what));
        } else if (dice < 95 + power / 20) {
            both("checkpoint()", () -> tree.checkpoint(), () -> model.checkpoint());
        } else if (dice < 98) {
            int b = random.nextInt(model.disk(0) + 2) - (random.nextInt(6) == 0 ? 1 : 0);
            both("spoil(" + b + ")", () -> Runs.none(() -> tree.spoil(b)), () -> Runs.none(() -> model.spoil(b)));
        } else {
            start();
        }
    }

    private void ask() {
        int v = version();
        int w = version();
        int key = key();
        int high = random.nextInt(4) == 0 ? Integer.MAX_VALUE : key();
        int p = pageNumber();
        int i = random.nextInt(19) - 1;
        int what = random.nextInt(7) - 1;
        int k = random.nextInt(15) - 1;
        switch (random.nextInt(14)) {
            case 0 -> both("version()", () -> tree.version(), () -> model.version());
            case 1 -> both("has(" + v + ", " + key + ")",
                    () -> tree.has(v, key) ? 1 : 0, () -> model.has(v, key) ? 1 : 0);
            case 2 -> both("get(" + v + ", " + key + ")", () -> tree.get(v, key), () -> model.get(v, key));
            case 3 -> both("next(" + v + ", " + key + ")", () -> tree.next(v, key), () -> model.next(v, key));
            case 4 -> both("count(" + v + ", " + key + ", " + high + ")",
                    () -> tree.count(v, key, high), () -> model.count(v, key, high));
            case 5 -> both("sum(" + v + ", " + key + ", " + high + ")",
                    () -> tree.sum(v, key, high), () -> model.sum(v, key, high));
            case 6 -> both("differs(" + v + ", " + w + ", " + k + ")",
                    () -> tree.differs(v, w, k), () -> model.differs(v, w, k));
            case 7 -> both("pages()", () -> tree.pages(), () -> model.pages());
            case 8 -> both("page(" + p + ", " + what + ")", () -> tree.page(p, what), () -> model.page(p, what));
            case 9 -> both("alive(" + p + ", " + v + ")", () -> tree.alive(p, v), () -> model.alive(p, v));
            case 10 -> both("entry(" + p + ", " + i + ", " + what + ")",
                    () -> tree.entry(p, i, what), () -> model.entry(p, i, what));
            case 11 -> both("root(" + v + ")", () -> tree.root(v), () -> model.root(v));
            case 12 -> both("bound()", () -> tree.bound(), () -> model.bound());
            default -> both("dense()", () -> tree.dense() ? 1 : 0, () -> model.dense() ? 1 : 0);
        }
    }
}
