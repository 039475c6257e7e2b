/** Promises 1 to 10: a new object, the updates, and what each version answers; answers told from the document. */
public final class TreePromisesTest {
    private static final String STATE = "throws.IllegalStateException";
    private static final String INDEX = "throws.IndexOutOfBoundsException";
    private static final String ARGUMENT = "throws.IllegalArgumentException";
    private static final String NO_SUCH = "throws.NoSuchElementException";
    private static final int LOW = Integer.MIN_VALUE;
    private static final int HIGH = Integer.MAX_VALUE;

    private static final Check check = new Check("tree promises");

    public static void main(String[] args) {
        newObject();
        putMakesVersions();
        putIntoFullLeaf();
        removeMakesVersions();
        removeTakesNeighbourIn();
        versionAndHas();
        get();
        next();
        countAndSum();
        differs();
        whileDown();
        check.end();
    }

    /** Keys 0, 10, 20, .. with the values 0, 1, 2, ..; each its own version. */
    private static PastTree tens(int keys) {
        PastTree x = new PastTree();
        for (int i = 0; i < keys; i++) {
            x.put(10 * i, i);
        }
        return x;
    }

    private static void newObject() {
        PastTree x = new PastTree();
        check.call("1: version()", () -> x.version(), 0);
        check.call("1: pages()", () -> x.pages(), 1);
        check.call("1: root(0)", () -> x.root(0), 0);
        int[] due = {0, 0, -1, 0, 0};
        for (int what = 0; what < 5; what++) {
            int w = what;
            check.call("1: page(0, " + w + ")", () -> x.page(0, w), due[w]);
            check.call("1: disk(" + w + ")", () -> x.disk(w), 0);
        }
        check.call("1: alive(0, 0)", () -> x.alive(0, 0), 0);
        check.call("1: count(0, ..)", () -> x.count(0, LOW, HIGH), 0);
        check.call("1: dense()", () -> Runs.bit(x.dense()), 1);
        check.call("1: start()", () -> x.start(), STATE);
        check.call("1: another object is not touched by the first", () -> tens(2).version() + new PastTree().version(), 2);
    }

    private static void putMakesVersions() {
        PastTree x = new PastTree();
        check.call("2: the first put", () -> x.put(5, 50L), 1);
        check.call("2: the same value makes a version, too", () -> x.put(5, 50L), 2);
        check.call("2: least key", () -> x.put(LOW, Long.MIN_VALUE), 3);
        check.call("2: greatest key", () -> x.put(HIGH, Long.MAX_VALUE), 4);
        check.call("2: entries", () -> x.page(0, 3), 4);
        check.call("2: the first entry went at 2", () -> x.entry(0, 0, 2), 2);
        check.call("2: the second came at 2", () -> x.entry(0, 1, 1), 2);
        check.call("2: entries stand as they came", () -> x.entry(0, 2, 0), LOW);
        check.call("2: the past stays", () -> x.count(1, LOW, HIGH), 1);
        check.call("2: greatest value", () -> x.get(4, HIGH), Long.MAX_VALUE);
        check.call("2: least value", () -> x.get(4, LOW), Long.MIN_VALUE);
    }

    private static void putIntoFullLeaf() {
        PastTree x = tens(16);
        check.call("2: sixteen have room", () -> x.pages(), 1);
        x.put(155, 1L);
        check.call("2: two leaves and a root", () -> x.pages(), 4);
        check.call("2: the old one died", () -> x.page(0, 2), 17);
        check.call("2: nothing came in it", () -> x.page(0, 3), 16);
        check.call("2: nothing went in it", () -> x.entry(0, 0, 2), -1);
        check.call("2: the greater half is the first", () -> x.page(1, 3), 9);
        check.call("2: the lesser one the second", () -> x.page(2, 3), 8);
        check.call("2: the root is one level higher", () -> x.page(3, 0), 1);
        check.call("2: root(16)", () -> x.root(16), 0);
        check.call("2: root(17)", () -> x.root(17), 3);
        check.call("2: entries of new pages are from this version", () -> x.entry(1, 0, 1), 17);
        check.call("2: key of the second entry", () -> x.entry(3, 1, 0), 90);
        check.call("2: its page", () -> x.entry(3, 1, 3), 2);
        x.put(-5, 1L);
        check.call("2: below all keys is the first leaf", () -> x.page(1, 3), 10);
        check.call("2: the parent's key stays then", () -> x.entry(3, 0, 0), 0);
        for (int i = 0; i < 7; i++) {
            x.put(-10 - i, 1L);
        }
        check.call("2: remade, its key is that of its own first entry", () -> x.entry(3, 2, 0), -16);
        check.call("2: the second with that of its first", () -> x.entry(3, 3, 0), 10);
        check.call("2: the entry of the page that died went", () -> x.entry(3, 0, 2), 25);
        check.call("2: the other did not", () -> x.entry(3, 1, 2), -1);

        PastTree y = new PastTree();
        for (int i = 0; i < 17; i++) {
            y.put(5, i);
        }
        check.call("2: a root remade into one", () -> y.pages(), 2);
        check.call("2: it is the root", () -> y.root(17), 1);
        check.call("2: with what is alive", () -> y.page(1, 3), 1);
    }

    private static void removeMakesVersions() {
        PastTree x = tens(3);
        check.call("3: remove", () -> x.remove(10), 4);
        check.call("3: it is gone", () -> x.remove(10), NO_SUCH);
        check.call("3: there never was such a key", () -> x.remove(11), NO_SUCH);
        check.call("3: what throws makes no version", () -> x.version(), 4);
        check.call("3: the entry went", () -> x.entry(0, 1, 2), 4);
        check.call("3: nothing came", () -> x.page(0, 3), 3);
        check.call("3: the past has it", () -> x.get(3, 10), 1);
        check.call("3: the others are there", () -> x.count(4, LOW, HIGH), 2);
        x.remove(0);
        check.call("3: the last key", () -> x.remove(20), 6);
        check.call("3: a root may be empty", () -> x.alive(0, 6), 0);
        check.call("3: a new object", () -> new PastTree().remove(0), NO_SUCH);
    }

    private static void removeTakesNeighbourIn() {
        PastTree x = tens(17);
        for (int i = 0; i < 6; i++) {
            x.remove(10 * i);
        }
        check.call("3: three alive are enough", () -> x.alive(1, 23), 3);
        check.call("3: no page was made", () -> x.pages(), 4);
        x.remove(60);
        check.call("3: too few: one page of both (2 and 8)", () -> x.pages(), 5);
        check.call("3: with all that is alive", () -> x.page(4, 3), 10);
        check.call("3: the page died", () -> x.page(1, 2), 24);
        check.call("3: its neighbour, too", () -> x.page(2, 2), 24);
        check.call("3: and the root that would have one entry", () -> x.page(3, 2), 24);
        check.call("3: in which nothing came", () -> x.page(3, 3), 2);
        check.call("3: nor went", () -> x.entry(3, 0, 2), -1);
        check.call("3: the one page is the root", () -> x.root(24), 4);
        check.call("3: nothing went in the page that died", () -> x.entry(1, 6, 2), -1);

        PastTree y = tens(17);
        y.put(155, 0L);
        for (int i = 16; i > 9; i--) {
            y.remove(10 * i);
        }
        check.call("3: of the last one the one before it (2 and 9)", () -> y.page(4, 3), 6);
        check.call("3: more than ten are two pages", () -> y.page(5, 3), 5);
        check.call("3: key of the first of those that go", () -> y.entry(3, 2, 0), 0);
        check.call("3: key of the second's first entry", () -> y.entry(3, 3, 0), 60);
    }

    private static void versionAndHas() {
        PastTree x = tens(40);
        check.call("4: version()", () -> x.version(), 40);
        for (int v = 0; v <= 40; v += 4) {
            for (int i = 0; i < 40; i += 3) {
                int version = v;
                int key = 10 * i;
                check.call("5: has(" + v + ", " + key + ")", () -> Runs.bit(x.has(version, key)), v > i ? 1 : 0);
                check.call("5: has(" + v + ", " + (key + 1) + ")", () -> Runs.bit(x.has(version, key + 1)), 0);
            }
        }
        check.call("5: below all", () -> Runs.bit(x.has(40, LOW)), 0);
        check.call("5: above all", () -> Runs.bit(x.has(40, HIGH)), 0);
        check.call("5: no such version", () -> Runs.bit(x.has(41, 0)), INDEX);
        check.call("5: below 0", () -> Runs.bit(x.has(-1, 0)), INDEX);
        check.call("5: least", () -> Runs.bit(x.has(LOW, 0)), INDEX);
        check.call("5: greatest", () -> Runs.bit(x.has(HIGH, 0)), INDEX);
    }

    private static void get() {
        PastTree x = tens(3);
        x.put(10, -7L);
        x.remove(20);
        check.call("6: before", () -> x.get(3, 10), 1);
        check.call("6: after", () -> x.get(4, 10), -7);
        check.call("6: after the next update", () -> x.get(5, 10), -7);
        check.call("6: removed", () -> x.get(5, 20), NO_SUCH);
        check.call("6: not yet put", () -> x.get(2, 20), NO_SUCH);
        check.call("6: version 0", () -> x.get(0, 10), NO_SUCH);
        check.call("6: no such version", () -> x.get(6, 11), INDEX);
        check.call("6: below 0", () -> x.get(-1, 10), INDEX);
    }

    private static void next() {
        PastTree x = tens(40);
        check.call("7: itself", () -> x.next(40, 100), 100);
        check.call("7: the next one", () -> x.next(40, 101), 110);
        check.call("7: the least", () -> x.next(40, LOW), 0);
        check.call("7: over the end of a leaf", () -> x.next(40, 81), 90);
        check.call("7: at an older version", () -> x.next(12, 101), 110);
        check.call("7: there was none yet", () -> x.next(11, 101), NO_SUCH);
        check.call("7: none above", () -> x.next(40, 391), NO_SUCH);
        check.call("7: the greatest", () -> x.next(40, HIGH), NO_SUCH);
        check.call("7: no such version", () -> x.next(41, HIGH), INDEX);
        check.call("7: below 0", () -> x.next(-1, 0), INDEX);
        x.put(HIGH, 1L);
        check.call("7: the greatest int is a key", () -> x.next(41, HIGH), HIGH);
        x.put(LOW, 1L);
        check.call("7: the least int is a key", () -> x.next(42, LOW), LOW);
        for (int key = 100; key < 250; key += 10) {
            x.remove(key);
        }
        check.call("7: over keys that went", () -> x.next(x.version(), 95), 250);
        check.call("7: the past has them", () -> x.next(42, 95), 100);
    }

    private static void countAndSum() {
        PastTree x = tens(40);
        check.call("8: all", () -> x.count(40, LOW, HIGH), 40);
        check.call("8: both ends count", () -> x.count(40, 100, 200), 11);
        check.call("8: between", () -> x.count(40, 101, 199), 9);
        check.call("8: one key", () -> x.count(40, 100, 100), 1);
        check.call("8: no key", () -> x.count(40, 101, 109), 0);
        check.call("8: low above high", () -> x.count(40, 200, 100), 0);
        check.call("8: low above high, at the ends", () -> x.count(40, HIGH, LOW), 0);
        check.call("8: an older version", () -> x.count(15, 100, 200), 5);
        check.call("8: version 0", () -> x.count(0, LOW, HIGH), 0);
        check.call("8: no such version", () -> x.count(41, 2, 1), INDEX);
        check.call("8: below 0", () -> x.count(-1, 0, 0), INDEX);
        check.call("9: all", () -> x.sum(40, LOW, HIGH), 780);
        check.call("9: both ends count", () -> x.sum(40, 100, 200), 165);
        check.call("9: low above high", () -> x.sum(40, 200, 100), 0);
        check.call("9: an older version", () -> x.sum(15, 100, 200), 60);
        check.call("9: no such version", () -> x.sum(41, 2, 1), INDEX);
        check.call("9: below 0", () -> x.sum(-1, 0, 0), INDEX);
        x.put(0, Long.MAX_VALUE);
        x.put(10, 1L);
        check.call("9: it wraps", () -> x.sum(42, 0, 10), Long.MIN_VALUE);
        x.remove(10);
        check.call("9: what went does not count", () -> x.sum(43, 0, 20), Long.MAX_VALUE + 2);
    }

    private static void differs() {
        PastTree x = tens(20);
        x.put(50, 5L);
        x.put(60, 66L);
        x.remove(70);
        x.put(5, 1L);
        int[] due = {5, 60, 70};
        for (int k = 0; k < 3; k++) {
            int n = k;
            check.call("10: differs(20, 24, " + k + ")", () -> x.differs(20, 24, n), due[k]);
            check.call("10: differs(24, 20, " + k + ")", () -> x.differs(24, 20, n), due[k]);
        }
        check.call("10: not so many", () -> x.differs(20, 24, 3), NO_SUCH);
        check.call("10: greatest k", () -> x.differs(20, 24, HIGH), NO_SUCH);
        check.call("10: the same value, put again", () -> x.differs(20, 21, 0), NO_SUCH);
        check.call("10: a version and itself", () -> x.differs(24, 24, 0), NO_SUCH);
        check.call("10: from nothing", () -> x.differs(0, 20, 19), 190);
        check.call("10: k below 0", () -> x.differs(20, 24, -1), ARGUMENT);
        check.call("10: least k", () -> x.differs(20, 24, LOW), ARGUMENT);
        check.call("10: no such first version", () -> x.differs(25, 0, -1), INDEX);
        check.call("10: no such second version", () -> x.differs(0, 25, -1), INDEX);
        check.call("10: first below 0", () -> x.differs(-1, 0, 0), INDEX);
        check.call("10: second below 0", () -> x.differs(0, -1, 0), INDEX);
    }

    /** IllegalStateException is the first one named, so that wrong arguments do not matter. */
    private static void whileDown() {
        PastTree x = tens(3);
        x.down();
        check.call("2: down", () -> x.put(1, 1L), STATE);
        check.call("3: down", () -> x.remove(0), STATE);
        check.call("3: down, no such key", () -> x.remove(1), STATE);
        check.call("4: down", () -> x.version(), STATE);
        check.call("5: down", () -> Runs.bit(x.has(9, 0)), STATE);
        check.call("6: down", () -> x.get(9, 0), STATE);
        check.call("7: down", () -> x.next(9, 0), STATE);
        check.call("8: down", () -> x.count(9, 0, 0), STATE);
        check.call("9: down", () -> x.sum(9, 0, 0), STATE);
        check.call("10: down", () -> x.differs(9, 9, -1), STATE);
        check.call("2: nothing was changed", () -> x.start(), 0);
    }
}
