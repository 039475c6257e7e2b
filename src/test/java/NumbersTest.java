/**
 * Promises 1 to 24, the edges of each section: the smallest and the greatest numbers, one below the first and one above
 * the last, an empty version, a sum that wraps around.
 */
public final class NumbersTest {
    private static final String STATE = "throws.IllegalStateException";
    private static final String INDEX = "throws.IndexOutOfBoundsException";
    private static final String ARGUMENT = "throws.IllegalArgumentException";
    private static final String NO_SUCH = "throws.NoSuchElementException";
    private static final int LOW = Integer.MIN_VALUE;
    private static final int HIGH = Integer.MAX_VALUE;
    private static final long LEAST = Long.MIN_VALUE;
    private static final long MOST = Long.MAX_VALUE;
    /** Ints that are never a version, a page, an entry or a number of anything here. */
    private static final int[] NEVER = {LOW, LOW + 1, -257, -256, -2, -1, 256, 257, 512, 513, 800, 801, HIGH - 1, HIGH};

    private static final Check check = new Check("numbers");

    public static void main(String[] args) {
        newObject();
        put();
        putAtTheEnds();
        remove();
        version();
        has();
        get();
        next();
        count();
        sum();
        sumWraps();
        differs();
        differsAtTheEnds();
        pages();
        page();
        alive();
        entry();
        root();
        bound();
        dense();
        sync();
        checkpoint();
        cut();
        down();
        spoil();
        start();
        disk();
        fiveHundredAndTwelveCalls();
        fiveHundredAndTwelveUpdates();
        check.end();
    }

    private static void is(String what, Check.Call call, Object due) {
        check.call(what, call, due);
    }

    /** Keys at the ends of the ints and about 0, on two levels: the leaves 1 and 2 below page 3. */
    private static PastTree ends() {
        PastTree x = Runs.put(new PastTree(), LOW, LOW + 5);
        Runs.put(x, -2, 2);
        return Runs.put(x, HIGH, HIGH - 5);
    }

    private static void newObject() {
        PastTree x = new PastTree();
        is("1: version()", () -> x.version(), 0);
        is("1: pages()", () -> x.pages(), 1);
        is("1: bound()", () -> x.bound(), 2);
        is("1: dense()", () -> Runs.bit(x.dense()), 1);
        is("1: root(0)", () -> x.root(0), 0);
        is("1: root(1)", () -> x.root(1), INDEX);
        is("1: page(0, 4): it is on the disk", () -> x.page(0, 4), 0);
        is("1: page(1, 0)", () -> x.page(1, 0), INDEX);
        is("1: entry(0, 0, 0)", () -> x.entry(0, 0, 0), INDEX);
        is("1: count(0, ..)", () -> x.count(0, LOW, HIGH), 0);
        is("1: sync()", () -> x.sync(), 0);
        is("1: spoil(0)", () -> Runs.none(() -> x.spoil(0)), INDEX);
        is("1: start()", () -> x.start(), STATE);
        is("1: disk", () -> x.disk(0) + x.disk(1) + x.disk(2) + x.disk(3) + x.disk(4), 0);
        x.down();
        is("1: it comes up as it was", () -> x.start(), 0);
        is("1: with page 0", () -> x.pages() * 10 + x.page(0, 4), 10);
    }

    private static void put() {
        PastTree x = new PastTree();
        int[] keys = {LOW, LOW + 1, -1, 0, 1, HIGH - 1, HIGH};
        long[] values = {LEAST, LEAST + 1, -1, 0, 1, MOST - 1, MOST};
        for (int i = 0; i < keys.length; i++) {
            int n = i;
            is("2: put(" + keys[i] + ", " + values[i] + ")", () -> x.put(keys[n], values[n]), i + 1);
        }
        for (int i = 0; i < keys.length; i++) {
            int n = i;
            is("2: get(7, " + keys[i] + ")", () -> x.get(7, keys[n]), values[i]);
            is("2: entry(0, " + i + ", 0)", () -> x.entry(0, n, 0), keys[i]);
            is("2: entry(0, " + i + ", 3)", () -> x.entry(0, n, 3), values[i]);
        }
        is("2: the least value in place of the greatest", () -> x.put(HIGH, LEAST), 8);
        is("2: it is there", () -> x.get(8, HIGH), LEAST);
        is("2: the past has the other", () -> x.get(7, HIGH), MOST);
    }

    private static void putAtTheEnds() {
        PastTree x = ends();
        is("2: two leaves and a root", () -> x.pages(), 4);
        is("2: nine of them in the first", () -> x.page(1, 3), 9);
        is("2: the root's first key", () -> x.entry(3, 0, 0), LOW);
        is("2: the root's second key", () -> x.entry(3, 1, 0), 1);
        is("2: the first of all", () -> x.next(17, LOW), LOW);
        is("2: the last of all", () -> x.next(17, HIGH), HIGH);
        x.put(LOW, 1L);
        is("2: the least key again", () -> x.get(18, LOW), 1);
        x.put(HIGH, 1L);
        is("2: the greatest key again", () -> x.get(19, HIGH), 1);
        is("2: each in its leaf", () -> x.page(1, 3) * 100 + x.page(2, 3), 1009);
    }

    private static void remove() {
        PastTree x = ends();
        is("3: one above the least", () -> x.remove(LOW + 6), NO_SUCH);
        is("3: one below the greatest", () -> x.remove(HIGH - 6), NO_SUCH);
        is("3: the least", () -> x.remove(LOW), 18);
        is("3: the least again", () -> x.remove(LOW), NO_SUCH);
        is("3: the greatest", () -> x.remove(HIGH), 19);
        is("3: the greatest again", () -> x.remove(HIGH), NO_SUCH);
        is("3: the past has the least", () -> x.get(17, LOW), LOW);
        is("3: the past has the greatest", () -> x.get(18, HIGH), HIGH);
        is("3: the others are there", () -> x.count(19, LOW, HIGH), 15);
        is("3: of an empty store", () -> new PastTree().remove(LOW), NO_SUCH);
        PastTree y = Runs.remove(Runs.put(new PastTree(), 1, 3), 1, 3);
        is("3: of a store that is empty again", () -> y.remove(1), NO_SUCH);
        is("3: which has its versions", () -> y.version(), 6);
    }

    private static void version() {
        PastTree x = new PastTree();
        is("4: 0", () -> x.version(), 0);
        Runs.put(x, 1, 400);
        is("4: 400", () -> x.version(), 400);
    }

    private static void has() {
        PastTree x = ends();
        is("5: least", () -> Runs.bit(x.has(17, LOW)), 1);
        is("5: greatest", () -> Runs.bit(x.has(17, HIGH)), 1);
        is("5: least, in the version before its own", () -> Runs.bit(x.has(0, LOW)), 0);
        is("5: greatest, in the version before its own", () -> Runs.bit(x.has(11, HIGH)), 0);
        is("5: greatest, in its own", () -> Runs.bit(x.has(12, HIGH)), 1);
        is("5: beside the least", () -> Runs.bit(x.has(17, LOW + 6)), 0);
        is("5: beside the greatest", () -> Runs.bit(x.has(17, HIGH - 6)), 0);
        is("5: one above the last version", () -> Runs.bit(x.has(18, 0)), INDEX);
        for (int never : NEVER) {
            is("5: has(" + never + ", 0)", () -> Runs.bit(x.has(never, 0)), INDEX);
        }
    }

    private static void get() {
        PastTree x = ends();
        is("6: least", () -> x.get(17, LOW), LOW);
        is("6: greatest", () -> x.get(17, HIGH), HIGH);
        is("6: an empty version", () -> x.get(0, 0), NO_SUCH);
        is("6: beside the least", () -> x.get(17, LOW + 6), NO_SUCH);
        is("6: beside the greatest", () -> x.get(17, HIGH - 6), NO_SUCH);
        is("6: one above the last version", () -> x.get(18, 0), INDEX);
        for (int never : NEVER) {
            is("6: get(" + never + ", 0)", () -> x.get(never, 0), INDEX);
        }
    }

    private static void next() {
        PastTree x = ends();
        is("7: from the least", () -> x.next(17, LOW), LOW);
        is("7: over the gap below", () -> x.next(17, LOW + 6), -2);
        is("7: from -1", () -> x.next(17, -1), -1);
        is("7: over the gap above", () -> x.next(17, 3), HIGH - 5);
        is("7: from one below the greatest", () -> x.next(17, HIGH - 1), HIGH - 1);
        is("7: from the greatest", () -> x.next(17, HIGH), HIGH);
        is("7: an empty version", () -> x.next(0, LOW), NO_SUCH);
        is("7: a version that has the least alone", () -> x.next(1, LOW), LOW);
        is("7: one above it", () -> x.next(1, LOW + 1), NO_SUCH);
        x.remove(HIGH);
        is("7: the greatest is gone", () -> x.next(18, HIGH), NO_SUCH);
        is("7: one above the last version", () -> x.next(19, LOW), INDEX);
        for (int never : NEVER) {
            is("7: next(" + never + ", 0)", () -> x.next(never, 0), INDEX);
        }
    }

    private static void count() {
        PastTree x = ends();
        is("8: all", () -> x.count(17, LOW, HIGH), 17);
        is("8: low above high", () -> x.count(17, HIGH, LOW), 0);
        is("8: low above high by one", () -> x.count(17, 1, 0), 0);
        is("8: just one", () -> x.count(17, 0, 0), 1);
        is("8: the least", () -> x.count(17, LOW, LOW), 1);
        is("8: the greatest", () -> x.count(17, HIGH, HIGH), 1);
        is("8: without the least", () -> x.count(17, LOW + 1, HIGH), 16);
        is("8: without the greatest", () -> x.count(17, LOW, HIGH - 1), 16);
        is("8: both ends count", () -> x.count(17, -2, 2), 5);
        is("8: neither end", () -> x.count(17, -1, 1), 3);
        is("8: up to the border of the leaves", () -> x.count(17, LOW, 0), 9);
        is("8: from the border of the leaves", () -> x.count(17, 1, HIGH), 8);
        is("8: an empty version", () -> x.count(0, LOW, HIGH), 0);
        is("8: one above the last version", () -> x.count(18, LOW, HIGH), INDEX);
        for (int never : NEVER) {
            is("8: count(" + never + ", ..)", () -> x.count(never, LOW, HIGH), INDEX);
        }
    }

    private static void sum() {
        PastTree x = ends();
        is("9: all", () -> x.sum(17, LOW, HIGH), 6L * LOW + 15 + 6L * HIGH - 15);
        is("9: low above high", () -> x.sum(17, HIGH, LOW), 0);
        is("9: low above high by one", () -> x.sum(17, 2, 1), 0);
        is("9: the least", () -> x.sum(17, LOW, LOW), LOW);
        is("9: the greatest", () -> x.sum(17, HIGH, HIGH), HIGH);
        is("9: beyond an int", () -> x.sum(17, HIGH - 1, HIGH), 2L * HIGH - 1);
        is("9: both ends count", () -> x.sum(17, 1, 2), 3);
        is("9: an empty version", () -> x.sum(0, LOW, HIGH), 0);
        is("9: one above the last version", () -> x.sum(18, LOW, HIGH), INDEX);
        for (int never : NEVER) {
            is("9: sum(" + never + ", ..)", () -> x.sum(never, LOW, HIGH), INDEX);
        }
    }

    private static void sumWraps() {
        PastTree x = new PastTree();
        x.put(1, MOST);
        x.put(2, 1L);
        x.put(3, LEAST);
        x.put(4, -1L);
        x.put(5, MOST);
        is("9: above the greatest long", () -> x.sum(5, 1, 2), LEAST);
        is("9: below the least long", () -> x.sum(5, 3, 4), MOST);
        is("9: round to nothing", () -> x.sum(5, 1, 3), 0);
        is("9: twice the greatest", () -> x.sum(5, 5, 5) + x.sum(5, 1, 1), -2);
        is("9: all", () -> x.sum(5, LOW, HIGH), MOST - 1);
        x.put(6, LEAST);
        x.put(7, LEAST);
        is("9: twice the least", () -> x.sum(7, 6, 7), 0);
    }

    private static void differs() {
        PastTree x = ends();
        x.put(0, 1L);
        x.remove(1);
        is("10: k = 0", () -> x.differs(17, 19, 0), 0);
        is("10: the last k", () -> x.differs(17, 19, 1), 1);
        is("10: one above it", () -> x.differs(17, 19, 2), NO_SUCH);
        is("10: the greatest k", () -> x.differs(17, 19, HIGH), NO_SUCH);
        is("10: k below 0", () -> x.differs(17, 19, -1), ARGUMENT);
        is("10: the least k", () -> x.differs(17, 19, LOW), ARGUMENT);
        is("10: two empty versions", () -> x.differs(0, 0, 0), NO_SUCH);
        is("10: an empty one and itself, k below 0", () -> x.differs(0, 0, -1), ARGUMENT);
        is("10: one above the last version", () -> x.differs(20, 0, 0), INDEX);
        is("10: one above the last version, the second", () -> x.differs(0, 20, 0), INDEX);
        for (int never : NEVER) {
            is("10: differs(" + never + ", 0, 0)", () -> x.differs(never, 0, 0), INDEX);
            is("10: differs(0, " + never + ", 0)", () -> x.differs(0, never, 0), INDEX);
        }
    }

    private static void differsAtTheEnds() {
        PastTree x = ends();
        is("10: the least key", () -> x.differs(0, 17, 0), LOW);
        is("10: the greatest key", () -> x.differs(0, 17, 16), HIGH);
        is("10: the greatest key, the other way", () -> x.differs(17, 0, 16), HIGH);
        is("10: not so many", () -> x.differs(17, 0, 17), NO_SUCH);
        x.put(HIGH, 0L);
        x.put(LOW, 0L);
        is("10: the least key with another value", () -> x.differs(17, 19, 0), LOW);
        is("10: the greatest key with another value", () -> x.differs(17, 19, 1), HIGH);
        is("10: none besides", () -> x.differs(17, 19, 2), NO_SUCH);
        x.remove(HIGH);
        is("10: a key that one has with the value 0", () -> x.differs(19, 20, 0), HIGH);
        is("10: the other way", () -> x.differs(20, 19, 0), HIGH);
        x.put(LOW, 1L << 32);
        is("10: values that differ above the lower half", () -> x.differs(20, 21, 0), LOW);
        x.put(LOW, 0L);
        is("10: back again", () -> x.differs(20, 22, 0), NO_SUCH);
    }

    private static void pages() {
        is("11: one", () -> new PastTree().pages(), 1);
        is("11: those that died count", () -> ends().pages(), 4);
    }

    private static void page() {
        PastTree x = ends();
        int[] due = {1, 17, -1, 2, 1};
        for (int what = 0; what < 5; what++) {
            int w = what;
            is("12: page(3, " + what + ")", () -> x.page(3, w), due[what]);
        }
        is("12: what below", () -> x.page(3, -1), ARGUMENT);
        is("12: what above", () -> x.page(3, 5), ARGUMENT);
        is("12: the least what", () -> x.page(3, LOW), ARGUMENT);
        is("12: the greatest what", () -> x.page(3, HIGH), ARGUMENT);
        is("12: one above the last page", () -> x.page(4, 0), INDEX);
        for (int never : NEVER) {
            is("12: page(" + never + ", 0)", () -> x.page(never, 0), INDEX);
            is("12: page(" + never + ", 9)", () -> x.page(never, 9), INDEX);
        }
    }

    private static void alive() {
        PastTree x = ends();
        is("13: an empty version", () -> x.alive(0, 0), 0);
        is("13: the last that it serves", () -> x.alive(0, 16), 16);
        is("13: it does not serve that", () -> x.alive(0, 17), -1);
        is("13: nor that", () -> x.alive(3, 0), -1);
        is("13: one above the last page", () -> x.alive(4, 0), INDEX);
        is("13: one above the last version", () -> x.alive(0, 18), INDEX);
        is("13: both", () -> x.alive(4, 18), INDEX);
        for (int never : NEVER) {
            is("13: alive(" + never + ", 0)", () -> x.alive(never, 0), INDEX);
            is("13: alive(0, " + never + ")", () -> x.alive(0, never), INDEX);
        }
    }

    private static void entry() {
        PastTree x = ends();
        is("14: the least key", () -> x.entry(0, 0, 0), LOW);
        is("14: the greatest key", () -> x.entry(0, 11, 0), HIGH);
        is("14: the last entry", () -> x.entry(0, 15, 0), HIGH - 4);
        is("14: one above the last entry", () -> x.entry(0, 16, 0), INDEX);
        is("14: one above that of a page with two", () -> x.entry(3, 2, 0), INDEX);
        is("14: no TO", () -> x.entry(0, 0, 2), -1);
        is("14: what below", () -> x.entry(3, 0, -1), ARGUMENT);
        is("14: what above", () -> x.entry(3, 0, 4), ARGUMENT);
        is("14: the least what", () -> x.entry(3, 0, LOW), ARGUMENT);
        is("14: the greatest what", () -> x.entry(3, 0, HIGH), ARGUMENT);
        is("14: one above the last page", () -> x.entry(4, 0, 0), INDEX);
        for (int never : NEVER) {
            is("14: entry(" + never + ", 0, 0)", () -> x.entry(never, 0, 0), INDEX);
            is("14: entry(0, " + never + ", 0)", () -> x.entry(0, never, 0), INDEX);
            is("14: entry(0, " + never + ", 9)", () -> x.entry(0, never, 9), INDEX);
        }
    }

    private static void root() {
        PastTree x = ends();
        is("15: the first version", () -> x.root(0), 0);
        is("15: the last version", () -> x.root(17), 3);
        is("15: one above it", () -> x.root(18), INDEX);
        for (int never : NEVER) {
            is("15: root(" + never + ")", () -> x.root(never), INDEX);
        }
    }

    private static void bound() {
        is("16: version 0", () -> new PastTree().bound(), 2);
        is("16: version 1", () -> Runs.put(new PastTree(), 7, 7).bound(), 4);
        is("16: version 17", () -> ends().bound(), 36);
    }

    private static void dense() {
        is("17: an empty store", () -> Runs.bit(new PastTree().dense()), 1);
        PastTree x = Runs.remove(Runs.put(new PastTree(), 1, 2), 1, 2);
        is("17: a root with two, one and none", () -> Runs.bit(x.dense()), 1);
        PastTree y = Runs.seventeen();
        is("17: a root with two that is no leaf", () -> Runs.bit(y.dense()), 1);
        Runs.remove(y, 0, 5);
        is("17: a leaf with just three", () -> Runs.bit(y.dense()) * 10 + y.alive(1, 23), 13);
        y.remove(6);
        is("17: a leaf that would have had two", () -> Runs.bit(y.dense()), 1);
    }

    private static void sync() {
        PastTree x = new PastTree();
        is("18: none waits", () -> x.sync(), 0);
        Runs.put(x, 1, 4);
        is("18: four", () -> x.sync(), 1);
        Runs.put(x, 1, 5);
        is("18: five", () -> x.sync(), 2);
    }

    private static void checkpoint() {
        PastTree x = new PastTree();
        is("19: only the head", () -> x.checkpoint(), 1);
        Runs.put(x, 1, 300);
        int dirty = x.disk(4);
        is("19: all pages are dirty", () -> x.pages(), dirty);
        is("19: each of them and the head", () -> x.checkpoint(), dirty + 1);
        is("19: only the head again", () -> x.checkpoint(), 1);
        is("19: all are kept", () -> x.disk(2), 300);
    }

    private static void cut() {
        PastTree x = new PastTree();
        is("20: none", () -> Runs.none(() -> x.cut(-1)), 0);
        is("20: below that", () -> Runs.none(() -> x.cut(-2)), ARGUMENT);
        is("20: the least", () -> Runs.none(() -> x.cut(LOW)), ARGUMENT);
        is("20: no block is stopped by these", () -> x.checkpoint(), 1);
        is("20: the greatest", () -> Runs.none(() -> x.cut(HIGH)), 0);
        is("20: which is far", () -> x.checkpoint(), 1);
        is("20: 1", () -> Runs.none(() -> x.cut(1)), 0);
        is("20: one block", () -> x.checkpoint(), 1);
        is("20: and no more", () -> x.checkpoint(), STATE);
        x.start();
        is("20: 0", () -> Runs.none(() -> x.cut(0)), 0);
        is("20: not one", () -> x.checkpoint(), STATE);
        is("20: three were written", () -> x.disk(3), 3);
    }

    private static void down() {
        PastTree x = new PastTree();
        is("21: down()", () -> Runs.none(x::down), 0);
        is("21: it is so already", () -> Runs.none(x::down), STATE);
        is("21: start()", () -> x.start(), 0);
        is("21: down() again", () -> Runs.none(x::down), 0);
        is("21: down by a cut", () -> {
            x.start();
            x.cut(0);
            return x.checkpoint();
        }, STATE);
        is("21: is so already", () -> Runs.none(x::down), STATE);
    }

    private static void spoil() {
        PastTree x = Runs.put(new PastTree(), 1, 5);
        is("22: what waits is no block", () -> Runs.none(() -> x.spoil(0)), INDEX);
        x.sync();
        is("22: one above the last block", () -> Runs.none(() -> x.spoil(2)), INDEX);
        for (int never : NEVER) {
            is("22: spoil(" + never + ")", () -> Runs.none(() -> x.spoil(never)), INDEX);
        }
        is("22: a block of forty that is free", () -> Runs.none(() -> x.spoil(39)), INDEX);
        is("22: the last block", () -> Runs.none(() -> x.spoil(1)), 0);
        x.down();
        is("22: one above the last block while down", () -> Runs.none(() -> x.spoil(2)), INDEX);
        is("22: the last block while down", () -> Runs.none(() -> x.spoil(1)), 0);
        is("22: the first is whole", () -> x.start(), 4);
        is("22: the last is no block now", () -> Runs.none(() -> x.spoil(1)), INDEX);
        is("22: the first", () -> Runs.none(() -> x.spoil(0)), 0);
        x.down();
        is("22: nothing is there", () -> x.start(), 0);
        is("22: no block", () -> Runs.none(() -> x.spoil(0)), INDEX);
    }

    private static void start() {
        PastTree x = new PastTree();
        is("23: it is not down", () -> x.start(), STATE);
        x.down();
        is("23: an empty store", () -> x.start(), 0);
        is("23: it is not down now", () -> x.start(), STATE);
        x.put(LOW, LEAST);
        x.put(HIGH, MOST);
        x.sync();
        x.down();
        is("23: two versions", () -> x.start(), 2);
        is("23: the least of all", () -> x.get(2, LOW), LEAST);
        is("23: the greatest of all", () -> x.get(2, HIGH), MOST);
    }

    private static void disk() {
        PastTree x = ends();
        x.sync();
        x.put(0, 0L);
        int[] up = {5, 1, 0, 5, 4};
        int[] down = {5, 0, 0, 5, 0};
        for (int what = 0; what < 5; what++) {
            int w = what;
            is("24: disk(" + what + ")", () -> x.disk(w), up[what]);
        }
        int[] none = {LOW, -2, -1, 5, 6, HIGH};
        for (int what : none) {
            is("24: disk(" + what + ")", () -> x.disk(what), ARGUMENT);
        }
        x.down();
        for (int what = 0; what < 5; what++) {
            int w = what;
            is("24: down: disk(" + what + ")", () -> x.disk(w), down[what]);
        }
        for (int what : none) {
            is("24: down: disk(" + what + ")", () -> x.disk(what), ARGUMENT);
        }
    }

    /** The most that an object is promised for: as many versions, each with one key more. */
    private static void fiveHundredAndTwelveCalls() {
        PastTree x = new PastTree();
        for (int i = 1; i <= 511; i++) {
            int key = i;
            is("call " + i, () -> x.put(key, key), i);
        }
        is("call 512", () -> x.count(511, LOW, HIGH), 511);
    }

    /** The most versions that an object is promised for, and the most records that can wait. */
    private static void fiveHundredAndTwelveUpdates() {
        PastTree x = new PastTree();
        for (int i = 1; i <= 512; i++) {
            int key = i;
            is("update " + i, () -> x.put(key, key), i);
        }
        PastTree full = Runs.put(new PastTree(), 1, 511);
        is("511 records are too many for the log", full::sync, "throws.UnsupportedOperationException");
        PastTree kept = Runs.put(new PastTree(), 1, 509);
        int made = kept.pages();
        is("all pages are dirty", kept::checkpoint, made + 1);
        is("all versions are kept", () -> kept.disk(2), 509);
        PastTree lost = Runs.put(new PastTree(), 1, 510);
        lost.down();
        is("all versions are gone", lost::start, 0);
    }
}
