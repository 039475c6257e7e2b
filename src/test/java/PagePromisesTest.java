/** Promises 11 to 17: what is told of pages, entries and roots; answers told from the document. */
public final class PagePromisesTest {
    private static final String STATE = "throws.IllegalStateException";
    private static final String INDEX = "throws.IndexOutOfBoundsException";
    private static final String ARGUMENT = "throws.IllegalArgumentException";
    private static final int LOW = Integer.MIN_VALUE;
    private static final int HIGH = Integer.MAX_VALUE;

    private static final Check check = new Check("page promises");

    public static void main(String[] args) {
        pages();
        page();
        alive();
        entry();
        root();
        bound();
        dense();
        whileDown();
        check.end();
    }

    /** Seventeen keys 0, 1, .. with the values 100, 101, ..: leaves 1 (nine) and 2 (eight) below page 3. */
    private static PastTree seventeen() {
        PastTree x = new PastTree();
        for (int i = 0; i < 17; i++) {
            x.put(i, 100 + i);
        }
        return x;
    }

    private static void pages() {
        check.call("11: one leaf", () -> new PastTree().pages(), 1);
        PastTree x = seventeen();
        check.call("11: with those that died", () -> x.pages(), 4);
        x.put(3, 1L);
        check.call("11: an update that makes none", () -> x.pages(), 4);
        x.down();
        x.start();
        check.call("11: pages of versions that are gone are gone", () -> x.pages(), 1);
        x.put(3, 1L);
        check.call("11: nor do they come back", () -> x.pages(), 1);
    }

    private static void page() {
        PastTree x = seventeen();
        x.remove(16);
        int[][] due = {{0, 0, 17, 16, 1}, {0, 17, -1, 9, 1}, {0, 17, -1, 8, 1}, {1, 17, -1, 2, 1}};
        for (int p = 0; p < 4; p++) {
            for (int what = 0; what < 5; what++) {
                int n = p;
                int w = what;
                check.call("12: page(" + p + ", " + what + ")", () -> x.page(n, w), due[p][what]);
            }
        }
        x.checkpoint();
        check.call("12: not dirty", () -> x.page(2, 4), 0);
        x.remove(15);
        check.call("12: an entry went", () -> x.page(2, 4), 1);
        check.call("12: the other leaf is not dirty", () -> x.page(1, 4), 0);
        x.put(1, 1L);
        check.call("12: an entry came", () -> x.page(1, 4), 1);
        check.call("12: the root is not dirty", () -> x.page(3, 4), 0);
        check.call("12: no such page", () -> x.page(4, 0), INDEX);
        check.call("12: no such page, nor property", () -> x.page(4, 5), INDEX);
        check.call("12: below 0", () -> x.page(-1, 0), INDEX);
        check.call("12: greatest", () -> x.page(HIGH, 0), INDEX);
        check.call("12: least", () -> x.page(LOW, 0), INDEX);
        check.call("12: what above", () -> x.page(3, 5), ARGUMENT);
        check.call("12: what below", () -> x.page(3, -1), ARGUMENT);

        PastTree y = seventeen();
        y.checkpoint();
        for (int i = 0; i < 6; i++) {
            y.remove(i);
        }
        check.call("12: the second leaf is not yet touched", () -> y.page(2, 4), 0);
        y.remove(6);
        check.call("12: a neighbour that died is dirty", () -> y.page(2, 4), 1);
        check.call("12: a root that died is dirty", () -> y.page(3, 4), 1);
        check.call("12: a page that died before is not", () -> y.page(0, 4), 0);
    }

    private static void alive() {
        PastTree x = seventeen();
        x.remove(16);
        x.put(15, 1L);
        check.call("13: before it was changed", () -> x.alive(0, 0), 0);
        check.call("13: of a page that died", () -> x.alive(0, 16), 16);
        check.call("13: it does not serve the version of its death", () -> x.alive(0, 17), -1);
        check.call("13: nor later ones", () -> x.alive(0, 19), -1);
        check.call("13: it does not serve the one before its birth", () -> x.alive(2, 16), -1);
        check.call("13: it serves that of its birth", () -> x.alive(2, 17), 8);
        check.call("13: one went", () -> x.alive(2, 18), 7);
        check.call("13: one went, one came", () -> x.alive(2, 19), 7);
        check.call("13: the root", () -> x.alive(3, 19), 2);
        check.call("13: no such page", () -> x.alive(4, 19), INDEX);
        check.call("13: page below 0", () -> x.alive(-1, 19), INDEX);
        check.call("13: no such version", () -> x.alive(3, 20), INDEX);
        check.call("13: version below 0", () -> x.alive(3, -1), INDEX);
    }

    private static void entry() {
        PastTree x = seventeen();
        x.put(12, Long.MIN_VALUE);
        long[] old = {12, 17, 18, 112};
        long[] young = {12, 18, -1, Long.MIN_VALUE};
        long[] below = {9, 17, -1, 2};
        for (int what = 0; what < 4; what++) {
            int w = what;
            check.call("14: entry(2, 3, " + what + ")", () -> x.entry(2, 3, w), old[what]);
            check.call("14: entry(2, 8, " + what + ")", () -> x.entry(2, 8, w), young[what]);
            check.call("14: entry(3, 1, " + what + ")", () -> x.entry(3, 1, w), below[what]);
        }
        check.call("14: no such entry", () -> x.entry(2, 9, 0), INDEX);
        check.call("14: no such entry, nor property", () -> x.entry(2, 9, 4), INDEX);
        check.call("14: entry below 0", () -> x.entry(2, -1, 0), INDEX);
        check.call("14: no such page", () -> x.entry(4, 0, 0), INDEX);
        check.call("14: page below 0", () -> x.entry(-1, 0, 0), INDEX);
        check.call("14: sixteen are the most", () -> x.entry(0, 16, 0), INDEX);
        check.call("14: what above", () -> x.entry(2, 0, 4), ARGUMENT);
        check.call("14: what below", () -> x.entry(2, 0, -1), ARGUMENT);
        check.call("14: an empty page", () -> new PastTree().entry(0, 0, 0), INDEX);
    }

    private static void root() {
        PastTree x = seventeen();
        x.put(0, 0L);
        check.call("15: version 0", () -> x.root(0), 0);
        check.call("15: the last of the first root", () -> x.root(16), 0);
        check.call("15: the first of the second", () -> x.root(17), 3);
        check.call("15: it stays", () -> x.root(18), 3);
        check.call("15: no such version", () -> x.root(19), INDEX);
        check.call("15: below 0", () -> x.root(-1), INDEX);
        check.call("15: least", () -> x.root(LOW), INDEX);
        check.call("15: greatest", () -> x.root(HIGH), INDEX);
    }

    private static void bound() {
        check.call("16: version 0", () -> new PastTree().bound(), 2);
        PastTree x = new PastTree();
        for (int i = 0; i < 120; i++) {
            x.put(i, 0L);
            check.that("16: there are never more pages", x.pages() <= x.bound());
        }
        check.call("16: version 120", () -> x.bound(), 242);
        x.down();
        x.start();
        check.call("16: of the latest version", () -> x.bound(), 2);
    }

    private static void dense() {
        PastTree x = new PastTree();
        for (int i = 0; i < 200; i++) {
            x.put(i * 7 % 200, 0L);
        }
        check.call("17: after puts", () -> Runs.bit(x.dense()), 1);
        for (int i = 0; i < 200; i++) {
            x.remove(i * 3 % 200);
        }
        check.call("17: after removes", () -> Runs.bit(x.dense()), 1);
        check.call("17: a root has no need of three", () -> x.alive(x.root(400), 400), 0);
        for (int p = 0; p < x.pages(); p++) {
            int end = x.page(p, 2) - 1;
            if (end >= 0 && x.root(end) != p) {
                check.that("17: page " + p + " was dense to its end", x.alive(p, end) >= 3);
            }
        }
        x.down();
        x.start();
        check.call("17: come up with version 0", () -> Runs.bit(x.dense()), 1);
    }

    private static void whileDown() {
        PastTree x = seventeen();
        x.down();
        check.call("11: down", () -> x.pages(), STATE);
        check.call("12: down", () -> x.page(9, 9), STATE);
        check.call("13: down", () -> x.alive(9, 99), STATE);
        check.call("14: down", () -> x.entry(9, 9, 9), STATE);
        check.call("15: down", () -> x.root(99), STATE);
        check.call("16: down", () -> x.bound(), STATE);
        check.call("17: down", () -> Runs.bit(x.dense()), STATE);
    }
}
