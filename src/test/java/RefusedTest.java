import java.util.TreeSet;

/**
 * When an update is REFUSED. No 512 calls are known that come so far, so that these runs are longer than an object
 * is promised for; the class has room for them.
 */
public final class RefusedTest {
    private static final String REFUSED = "throws.UnsupportedOperationException";
    private static final int LOW = Integer.MIN_VALUE;
    private static final int HIGH = Integer.MAX_VALUE;

    private static final Check check = new Check("refused");
    /** How many levels there were and how many pages were free, when an update was refused and when it was not. */
    private static final TreeSet<String> seen = new TreeSet<>();

    private final PastTree x = new PastTree();
    private int least;
    private int greatest;
    private boolean refused;

    public static void main(String[] args) {
        for (int shift = 0; shift < 4; shift++) {
            new RefusedTest().twoLevels(shift);
            new RefusedTest().oneLevel(shift);
            new RefusedTest().threeLevels(shift);
        }
        for (int levels = 1; levels <= 3; levels++) {
            int needed = 2 * levels + 1;
            check.that("made with " + levels + " levels and " + needed + " free",
                    seen.contains("made " + levels + " " + needed));
            check.that("refused with " + levels + " levels and " + (needed - 1) + " free",
                    seen.contains("refused " + levels + " " + (needed - 1)));
        }
        check.end();
    }

    private int levels() {
        return x.page(x.root(x.version()), 0) + 1;
    }

    /** An update, of which the document says whether it is refused. */
    private void update(Check.Call call) {
        int levels = levels();
        int free = 256 - x.pages();
        refused = free < 2 * levels + 1;
        seen.add((refused ? "refused " : "made ") + levels + " " + free);
        check.call("with " + levels + " levels and " + free + " free", call, refused ? REFUSED : x.version() + 1);
    }

    private void put(int key) {
        update(() -> x.put(key, key));
    }

    private void remove(int key) {
        update(() -> x.remove(key));
    }

    /** Eleven keys, of which the least is put and the greatest removed: two leaves are made with each six updates. */
    private void eat(int shift, int pages) {
        for (int i = 0; i < 17 * shift; i++) {
            put(0);
        }
        for (int i = 0; i < 11; i++) {
            put(-i);
        }
        least = -10;
        while (x.pages() < pages && !refused) {
            least--;
            put(least);
            if (!refused) {
                remove(greatest);
                greatest--;
            }
        }
    }

    private void twoLevels(int shift) {
        eat(shift, 256);
        check.that("it came to a refusal", refused);
        check.same("levels", levels(), 2);
        nothingHasChanged();
        theStoreIsAskedAsBefore();
        whatComesUpIsNotRefused();
    }

    private void nothingHasChanged() {
        int version = x.version();
        int pages = x.pages();
        int entries = x.page(pages - 1, 3);
        int waiting = x.disk(1);
        int dirty = x.disk(4);
        int key = x.next(version, LOW);
        check.call("a new key", () -> x.put(HIGH, 1L), REFUSED);
        check.call("a key that is there", () -> x.put(key, 1L), REFUSED);
        check.call("a remove, though it might need no page", () -> x.remove(key), REFUSED);
        check.call("there is no such key: the first one named", () -> x.remove(HIGH), "throws.NoSuchElementException");
        check.same("no version was made", x.version(), version);
        check.same("nor a page", x.pages(), pages);
        check.same("no entry came", x.page(pages - 1, 3), entries);
        check.same("no record waits for it", x.disk(1), waiting);
        check.same("no page is dirty by it", x.disk(4), dirty);
        check.call("the value", () -> x.get(version, key), key);
    }

    private void theStoreIsAskedAsBefore() {
        int version = x.version();
        check.that("a number of keys", x.count(version, LOW, HIGH) >= 10);
        check.that("an older version", x.has(12, 0));
        check.that("never more than 256", x.pages() <= 256);
        check.that("never more than the bound", x.pages() <= x.bound());
        check.that("dense", x.dense());
        check.call("a checkpoint makes no page free", () -> x.checkpoint(), x.pages() + 1);
        check.call("so that it is refused still", () -> x.put(1, 1L), REFUSED);
        x.down();
        check.call("down: the first one named", () -> x.put(1, 1L), "throws.IllegalStateException");
        check.call("start", () -> x.start(), version);
        check.call("refused when it comes up", () -> x.put(1, 1L), REFUSED);
    }

    /** Pages of versions that are gone are free again. */
    private static void whatComesUpIsNotRefused() {
        RefusedTest other = new RefusedTest();
        other.eat(0, 256);
        other.x.down();
        check.call("all versions are gone", () -> other.x.start(), 0);
        check.call("all pages but one are free", () -> other.x.pages(), 1);
        check.call("an update makes the next version", () -> other.x.put(1, 1L), 1);
    }

    private void oneLevel(int shift) {
        eat(shift, 249);
        int turns = 0;
        while (levels() > 1 && !refused && turns < 30) {
            remove(greatest);
            greatest--;
            turns++;
        }
        for (int i = 0; i < 80 && !refused; i++) {
            put(least);
        }
        check.that("one leaf: it came to a refusal", refused);
    }

    private void threeLevels(int shift) {
        eat(shift, 220 - 2 * shift);
        for (int i = 0; i < 200 && !refused; i++) {
            least--;
            put(least);
        }
        check.that("a tall store: it came to a refusal", refused);
    }
}
