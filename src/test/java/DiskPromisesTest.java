/** Promises 18 to 24: the log, checkpoints, the power, and what is there when the store comes up. */
public final class DiskPromisesTest {
    private static final String STATE = "throws.IllegalStateException";
    private static final String INDEX = "throws.IndexOutOfBoundsException";
    private static final String ARGUMENT = "throws.IllegalArgumentException";
    private static final String UNSUPPORTED = "throws.UnsupportedOperationException";
    private static final int LOW = Integer.MIN_VALUE;
    private static final int HIGH = Integer.MAX_VALUE;

    private static final Check check = new Check("disk promises");

    public static void main(String[] args) {
        sync();
        syncWithoutRoom();
        syncWithCut();
        checkpoint();
        checkpointWithCut();
        cut();
        down();
        spoil();
        start();
        startDropsPages();
        disk();
        check.end();
    }

    private static PastTree puts(int keys) {
        PastTree x = new PastTree();
        putMore(x, keys);
        return x;
    }

    private static void putMore(PastTree x, int keys) {
        for (int i = 0; i < keys; i++) {
            x.put(i, i);
        }
    }

    private static void disks(String when, PastTree x, int... due) {
        for (int what = 0; what < 5; what++) {
            int w = what;
            check.call("24: " + when + ": disk(" + what + ")", () -> x.disk(w), due[what]);
        }
    }

    private static void sync() {
        PastTree x = puts(9);
        check.call("18: four in a block", () -> x.sync(), 3);
        check.call("18: nothing waits", () -> x.sync(), 0);
        x.put(1, 1L);
        check.call("18: a block of its own behind the others", () -> x.sync(), 1);
        disks("after two syncs", x, 4, 0, 0, 4, 1);
        putMore(x, 4);
        check.call("18: four are one block", () -> x.sync(), 1);
        putMore(x, 5);
        check.call("18: five are two", () -> x.sync(), 2);
        x.down();
        check.call("18: down", () -> x.sync(), STATE);
        check.call("18: all versions are there", () -> x.start(), 19);
        check.call("18: nothing waits then", () -> x.sync(), 0);
    }

    private static void syncWithoutRoom() {
        PastTree x = puts(160);
        check.call("18: forty blocks", () -> x.sync(), 40);
        check.call("18: no block is needed", () -> x.sync(), 0);
        x.put(1, 1L);
        check.call("18: no block is left", () -> x.sync(), UNSUPPORTED);
        disks("full log", x, 40, 1, 0, 40, x.disk(4));
        x.cut(0);
        check.call("18: nothing is written, so that the power does not go", () -> x.sync(), UNSUPPORTED);
        check.call("18: the store is up", () -> x.version(), 161);
        x.cut(-1);
        x.checkpoint();
        x.put(2, 2L);
        check.call("18: a checkpoint makes room", () -> x.sync(), 1);

        PastTree y = puts(161);
        check.call("18: one block too many", () -> y.sync(), UNSUPPORTED);
        check.call("18: nothing is written", () -> y.disk(3), 0);
        check.call("18: all wait", () -> y.disk(1), 161);
        y.down();
        check.call("18: and are gone with the power", () -> y.start(), 0);
    }

    private static void syncWithCut() {
        PastTree x = puts(10);
        x.cut(2);
        check.call("18: the power goes", () -> x.sync(), STATE);
        disks("cut in a sync", x, 2, 0, 0, 2, 0);
        check.call("18: the store is down", () -> x.version(), STATE);
        check.call("23: what was written is there", () -> x.start(), 8);
        disks("after it", x, 2, 0, 0, 2, 1);
        x.put(1, 1L);
        check.call("20: no cut is set then", () -> x.sync(), 1);

        PastTree y = puts(8);
        y.cut(2);
        check.call("20: so many blocks are written", () -> y.sync(), 2);
        check.call("20: no block is to be written", () -> y.sync(), 0);
        y.put(1, 1L);
        check.call("20: the next one is not", () -> y.sync(), STATE);
        check.call("23: start()", () -> y.start(), 8);
    }

    private static void checkpoint() {
        check.call("19: nothing but the head", () -> new PastTree().checkpoint(), 1);
        PastTree x = puts(17);
        check.call("24: dirty pages", () -> x.disk(4), 4);
        x.sync();
        x.spoil(0);
        check.call("19: each dirty page and the head", () -> x.checkpoint(), 5);
        disks("after a checkpoint", x, 0, 0, 17, 10, 0);
        check.call("19: no page is dirty", () -> x.checkpoint(), 1);
        x.put(0, 1L);
        check.call("19: a leaf and the head", () -> x.checkpoint(), 2);
        x.put(0, 2L);
        x.down();
        check.call("19: down", () -> x.checkpoint(), STATE);
        check.call("19: all versions so far were kept", () -> x.start(), 18);
        check.call("19: with the past", () -> x.get(17, 0), 0);
        check.call("19: with the latest", () -> x.get(18, 0), 1);
        check.call("24: no page is dirty", () -> x.disk(4), 0);
    }

    private static void checkpointWithCut() {
        PastTree x = puts(18);
        x.sync();
        x.put(0, 1L);
        x.cut(4);
        check.call("19: the power goes before the head", () -> x.checkpoint(), STATE);
        disks("cut in a checkpoint", x, 5, 0, 0, 9, 0);
        check.call("23: as if there had been none", () -> x.start(), 18);
        disks("after it", x, 5, 0, 0, 9, 4);
        x.put(0, 1L);
        x.cut(5);
        check.call("19: just enough", () -> x.checkpoint(), 5);
        disks("after one that was finished", x, 0, 0, 19, 14, 0);
        check.call("20: the cut is set still", () -> x.checkpoint(), STATE);
        check.call("23: kept", () -> x.start(), 19);
        check.call("19: at the first page", () -> {
            x.put(1, 1L);
            x.cut(0);
            return x.checkpoint();
        }, STATE);
        check.call("24: no block was written", () -> x.disk(3), 14);
        check.call("23: kept still", () -> x.start(), 19);
    }

    private static void cut() {
        PastTree x = puts(4);
        check.call("20: below -1", () -> Runs.none(() -> x.cut(-2)), ARGUMENT);
        check.call("20: least", () -> Runs.none(() -> x.cut(LOW)), ARGUMENT);
        check.call("20: none is set by that", () -> x.sync(), 1);
        x.cut(0);
        check.call("20: in place of one that is set", () -> Runs.none(() -> x.cut(1)), 0);
        x.put(1, 1L);
        check.call("20: one block is written", () -> x.sync(), 1);
        check.call("20: -2 leaves the cut", () -> Runs.none(() -> x.cut(-2)), ARGUMENT);
        x.cut(-1);
        x.put(2, 1L);
        check.call("20: none with -1", () -> x.sync(), 1);
        check.call("20: greatest", () -> Runs.none(() -> x.cut(HIGH)), 0);
        x.cut(0);
        check.call("20: an update writes no block", () -> x.put(3, 1L), 7);
        x.down();
        check.call("20: down", () -> Runs.none(() -> x.cut(0)), STATE);
        check.call("20: down, and below -1", () -> Runs.none(() -> x.cut(-2)), STATE);
        x.start();
        x.put(4, 1L);
        check.call("20: no cut is set when the store comes up", () -> x.sync(), 1);
    }

    private static void down() {
        PastTree x = puts(3);
        check.call("21: down()", () -> Runs.none(x::down), 0);
        check.call("21: it is so already", () -> Runs.none(x::down), STATE);
        disks("down", x, 0, 0, 0, 0, 0);
        check.call("21: what waited is gone", () -> x.start(), 0);
        check.call("21: again", () -> Runs.none(x::down), 0);
    }

    private static void spoil() {
        PastTree x = puts(12);
        check.call("22: the log is empty", () -> Runs.none(() -> x.spoil(0)), INDEX);
        x.sync();
        check.call("22: no such block", () -> Runs.none(() -> x.spoil(3)), INDEX);
        check.call("22: below 0", () -> Runs.none(() -> x.spoil(-1)), INDEX);
        check.call("22: greatest", () -> Runs.none(() -> x.spoil(HIGH)), INDEX);
        check.call("22: the last block", () -> Runs.none(() -> x.spoil(2)), 0);
        check.call("22: twice", () -> Runs.none(() -> x.spoil(2)), 0);
        check.call("22: nothing is lost while the store is up", () -> x.version(), 12);
        x.put(1, 1L);
        check.call("22: it is a block of the log still", () -> x.sync(), 1);
        disks("with a spoiled block", x, 4, 0, 0, 4, 1);
        x.down();
        check.call("22: those behind it are lost, too", () -> x.start(), 8);
        disks("without it", x, 2, 0, 0, 4, 1);
        putMore(x, 4);
        x.sync();
        x.down();
        check.call("22: what was free is not spoiled", () -> x.start(), 12);
        x.down();
        check.call("22: while down", () -> Runs.none(() -> x.spoil(1)), 0);
        check.call("22: while down, no such block", () -> Runs.none(() -> x.spoil(3)), INDEX);
        check.call("22: the first one that is spoiled", () -> x.start(), 4);
        x.spoil(0);
        x.checkpoint();
        putMore(x, 4);
        x.sync();
        x.down();
        check.call("22: an empty log has none that is spoiled", () -> x.start(), 8);
        x.spoil(0);
        x.down();
        check.call("22: what was kept is there", () -> x.start(), 4);
    }

    private static void start() {
        PastTree x = puts(2);
        check.call("23: it is not down", () -> x.start(), STATE);
        x.sync();
        x.remove(0);
        x.put(7, 7L);
        x.down();
        check.call("23: the records of the log", () -> x.start(), 2);
        check.call("23: an entry that went is there again", () -> x.entry(0, 0, 2), -1);
        check.call("23: an entry that came is gone", () -> x.page(0, 3), 2);
        check.call("23: later versions are gone", () -> x.root(3), INDEX);
        check.call("23: the next version follows", () -> x.put(9, 9L), 3);
        check.call("23: with other keys than the one that is gone", () -> x.next(3, 2), 9);
        check.call("23: it waits", () -> x.disk(1), 1);
        check.call("23: it is not down", () -> x.start(), STATE);
    }

    private static void startDropsPages() {
        PastTree x = puts(16);
        x.checkpoint();
        x.put(16, 16L);
        check.call("11: pages", () -> x.pages(), 4);
        x.down();
        check.call("23: start()", () -> x.start(), 16);
        check.call("23: pages that it made are gone", () -> x.pages(), 1);
        check.call("23: what died lives", () -> x.page(0, 2), -1);
        check.call("24: and is not dirty", () -> x.disk(4), 0);
        x.remove(3);
        x.sync();
        x.put(16, 1L);
        x.put(17, 1L);
        check.call("23: page numbers are used again", () -> x.page(1, 1), 18);
        x.down();
        check.call("23: start()", () -> x.start(), 17);
        check.call("23: what the log's records changed is dirty", () -> x.page(0, 4), 1);
        check.call("24: dirty pages", () -> x.disk(4), 1);
        check.call("23: the entry that went is gone", () -> x.entry(0, 3, 2), 17);
        check.call("17: dense", () -> x.dense() ? 1 : 0, 1);
    }

    private static void disk() {
        PastTree x = puts(6);
        disks("six puts", x, 0, 6, 0, 0, 1);
        check.call("24: what above", () -> x.disk(5), ARGUMENT);
        check.call("24: what below", () -> x.disk(-1), ARGUMENT);
        check.call("24: least", () -> x.disk(LOW), ARGUMENT);
        x.sync();
        x.put(1, 1L);
        disks("six in the log, one waits", x, 2, 1, 0, 2, 1);
        x.down();
        disks("down", x, 2, 0, 0, 2, 0);
        check.call("24: down, what above", () -> x.disk(5), ARGUMENT);
        x.start();
        disks("up", x, 2, 0, 0, 2, 1);
        x.checkpoint();
        disks("checkpoint", x, 0, 0, 6, 4, 0);
    }
}
