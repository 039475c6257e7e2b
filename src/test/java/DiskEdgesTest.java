/** The document's "Terms", part 2, THE DISK: a test of its own for each sentence that names an edge. */
public final class DiskEdgesTest {
    private static final String STATE = "throws.IllegalStateException";
    private static final String INDEX = "throws.IndexOutOfBoundsException";
    private static final String UNSUPPORTED = "throws.UnsupportedOperationException";
    private static final int LOW = Integer.MIN_VALUE;
    private static final int HIGH = Integer.MAX_VALUE;

    private static final Check check = new Check("disk edges");

    public static void main(String[] args) {
        aBlockIsWrittenWhollyOrNotAtAll();
        aCutIsReachedWithOneMoreBlock();
        aCutCountsFromThenOn();
        aCutCountsAllKindsOfBlocks();
        noCutIsSetWhenItWasReached();
        eachUpdateMakesARecordThatWaits();
        fourInABlock();
        theLastBlockMayHaveFewer();
        aLastBlockWithFewerIsNotFilled();
        theLogHasFortyBlocks();
        fortyBlocksOfOneRecord();
        fortyBlocksAreThereAgain();
        whatIsInTheLogWaitsNoMoreBlockByBlock();
        aPageIsDirty();
        aPageIsDirtySinceTheLatestCheckpointThatWasFinished();
        onlyTheHead();
        aCheckpointIsFinishedWithTheHead();
        thePowerGoesAtEachBlockOfACheckpoint();
        asIfThereHadBeenNoCheckpoint();
        whatIsKeptIsThere();
        upToBeforeTheFirstBlockThatIsSpoiled();
        theFirstOfTwoThatAreSpoiled();
        thoseBehindAreFree();
        spoiledTillTheLogIsEmpty();
        laterVersionsAreGoneWithTheirPagesAndEntries();
        whatTheLastVersionThatIsThereDidIsDone();
        numbersOfPagesThatAreGoneAreUsedAgain();
        pagesAreDirtyThatTheLogChanged();
        noCutIsSetWhenItComesUp();
        noRecordWaitsWhenItComesUp();
        upAndDownAgain();
        check.end();
    }

    private static void is(String what, Check.Call call, Object due) {
        check.call(what, call, due);
    }

    private static PastTree puts(int keys) {
        return Runs.put(new PastTree(), 0, keys - 1);
    }

    /** Blocks in the log, records that wait, the version that is kept, blocks written, dirty pages. */
    private static void disk(String when, PastTree x, int... due) {
        for (int what = 0; what < 5; what++) {
            int w = what;
            is(when + ": disk(" + what + ")", () -> x.disk(w), due[what]);
        }
    }

    private static void aBlockIsWrittenWhollyOrNotAtAll() {
        for (int n = 0; n <= 3; n++) {
            PastTree x = puts(11);
            x.cut(n);
            is("cut(" + n + "): sync()", () -> x.sync(), n < 3 ? STATE : 3);
            is("cut(" + n + "): blocks in the log", () -> x.disk(0), n);
            is("cut(" + n + "): blocks written", () -> x.disk(3), n);
            if (n == 3) {
                x.down();
            }
            is("cut(" + n + "): versions", () -> x.start(), Math.min(4 * n, 11));
        }
    }

    private static void aCutIsReachedWithOneMoreBlock() {
        PastTree x = puts(8);
        x.cut(2);
        is("so many blocks are written", () -> x.sync(), 2);
        is("the store is up", () -> x.version(), 8);
        is("a sync without a block", () -> x.sync(), 0);
        is("an update writes none", () -> x.put(8, 8L), 9);
        is("a question writes none", () -> x.count(9, LOW, HIGH), 9);
        is("one more is not written", () -> x.sync(), STATE);
        is("the store is down", () -> x.version(), STATE);
        is("it was not written", () -> x.disk(3), 2);

        PastTree y = new PastTree();
        y.cut(0);
        is("the next one is not written", () -> y.checkpoint(), STATE);
        is("none was", () -> y.disk(3), 0);
        is("the store is down", () -> Runs.none(y::down), STATE);
    }

    private static void aCutCountsFromThenOn() {
        PastTree x = puts(8);
        x.sync();
        x.put(8, 8L);
        x.cut(1);
        is("blocks before it do not count", () -> x.sync(), 1);
        x.put(9, 9L);
        x.cut(1);
        is("a new one counts anew", () -> x.sync(), 1);
        x.put(10, 10L);
        x.cut(-1);
        is("none with -1", () -> x.sync(), 1);
        x.cut(HIGH);
        x.put(11, 11L);
        is("the greatest is far", () -> x.sync(), 1);
        x.put(12, 12L);
        x.cut(0);
        x.cut(-1);
        is("none in place of 0", () -> x.sync(), 1);
    }

    private static void aCutCountsAllKindsOfBlocks() {
        PastTree x = puts(4);
        x.cut(3);
        is("one block of the log", () -> x.sync(), 1);
        is("a page and the head", () -> x.checkpoint(), 2);
        is("no block is left", () -> x.checkpoint(), STATE);
        is("three were written", () -> x.disk(3), 3);
        is("all is kept", () -> x.start(), 4);

        PastTree y = puts(4);
        y.cut(2);
        y.sync();
        is("the head is one too many", () -> y.checkpoint(), STATE);
        is("the page was written", () -> y.disk(3), 2);
        is("the log is there", () -> y.start(), 4);
        is("nothing is kept", () -> y.disk(2), 0);
    }

    private static void noCutIsSetWhenItWasReached() {
        PastTree x = puts(4);
        x.cut(0);
        is("reached", () -> x.sync(), STATE);
        x.start();
        x.put(1, 1L);
        is("a block of the log", () -> x.sync(), 1);
        is("a page and the head", () -> x.checkpoint(), 2);
    }

    private static void eachUpdateMakesARecordThatWaits() {
        PastTree x = new PastTree();
        is("none", () -> x.disk(1), 0);
        x.put(1, 1L);
        is("of a put", () -> x.disk(1), 1);
        x.put(1, 1L);
        is("of the same again", () -> x.disk(1), 2);
        is("no such key", () -> x.remove(2), "throws.NoSuchElementException");
        is("none of what throws", () -> x.disk(1), 2);
        x.remove(1);
        is("of a remove", () -> x.disk(1), 3);
    }

    private static void fourInABlock() {
        int[] blocks = {0, 1, 1, 1, 1, 2, 2, 2, 2, 3};
        for (int records = 0; records < blocks.length; records++) {
            PastTree x = records == 0 ? new PastTree() : puts(records);
            int n = records;
            is(records + " records: sync()", () -> x.sync(), blocks[records]);
            is(records + " records: in the log", () -> x.disk(0), blocks[records]);
            is(records + " records: none waits", () -> x.disk(1), 0);
            x.down();
            is(records + " records: all are there", () -> x.start(), n);
        }
    }

    private static void theLastBlockMayHaveFewer() {
        int[] due = {0, 4, 8, 9};
        for (int b = 0; b <= 3; b++) {
            PastTree x = puts(9);
            x.sync();
            if (b < 3) {
                x.spoil(b);
            }
            x.down();
            is("as they came: versions before block " + b, () -> x.start(), due[b]);
        }
    }

    private static void aLastBlockWithFewerIsNotFilled() {
        PastTree x = puts(1);
        x.sync();
        Runs.put(x, 1, 3);
        is("three more are a block of their own", () -> x.sync(), 1);
        is("two blocks", () -> x.disk(0), 2);
        x.spoil(1);
        x.down();
        is("the first block has one", () -> x.start(), 1);
        Runs.put(x, 1, 4);
        is("four are one block", () -> x.sync(), 1);
        x.put(5, 5L);
        x.sync();
        x.spoil(2);
        x.down();
        is("one and four", () -> x.start(), 5);
    }

    private static void theLogHasFortyBlocks() {
        PastTree x = puts(157);
        is("157 are forty blocks", () -> x.sync(), 40);
        is("none is needed", () -> x.sync(), 0);
        Runs.put(x, 0, 2);
        is("three places in the last block do not count", () -> x.sync(), UNSUPPORTED);
        disk("they wait", x, 40, 3, 0, 40, x.disk(4));

        PastTree y = puts(161);
        is("161 are too many for an empty log", () -> y.sync(), UNSUPPORTED);
        disk("nothing is written", y, 0, 161, 0, 0, y.disk(4));
        y.down();
        is("nothing is there", () -> y.start(), 0);

        PastTree z = puts(152);
        z.sync();
        Runs.put(z, 0, 8);
        is("three blocks, where two are left", () -> z.sync(), UNSUPPORTED);
        is("none of them is written", () -> z.disk(0), 38);
        z.down();
        z.start();
        Runs.put(z, 0, 7);
        is("two blocks, where two are left", () -> z.sync(), 2);
        is("forty", () -> z.disk(0), 40);
        is("the last one is 39", () -> Runs.none(() -> z.spoil(39)), 0);
        is("there is no block 40", () -> Runs.none(() -> z.spoil(40)), INDEX);
        z.down();
        is("without the last one", () -> z.start(), 156);
    }

    private static void fortyBlocksOfOneRecord() {
        PastTree x = new PastTree();
        for (int i = 0; i < 40; i++) {
            int key = i;
            is("block " + i, () -> x.put(key, key) * 10 + x.sync(), 10 * i + 11);
        }
        x.put(40, 40L);
        is("no block is left", () -> x.sync(), UNSUPPORTED);
        is("one waits", () -> x.disk(1), 1);
        is("it is there while the store is up", () -> x.get(41, 40), 40);
        x.down();
        is("forty versions", () -> x.start(), 40);
    }

    private static void fortyBlocksAreThereAgain() {
        PastTree x = puts(160);
        x.sync();
        x.spoil(38);
        x.down();
        is("two blocks are free", () -> x.start(), 152);
        Runs.put(x, 0, 7);
        is("they are written", () -> x.sync(), 2);
        x.put(1, 1L);
        is("then none is left", () -> x.sync(), UNSUPPORTED);
        x.checkpoint();
        is("none waits after a checkpoint", () -> x.sync(), 0);
        Runs.put(x, 0, 159);
        is("an empty log has forty again", () -> x.sync(), 40);
    }

    private static void whatIsInTheLogWaitsNoMoreBlockByBlock() {
        PastTree x = puts(14);
        x.cut(3);
        is("the fourth block is not written", () -> x.sync(), STATE);
        disk("three are", x, 3, 0, 0, 3, 0);
        is("twelve are there", () -> x.start(), 12);
        disk("none waits", x, 3, 0, 0, 3, 1);
        is("the next version is 13", () -> x.put(50, 50L), 13);
        is("it waits", () -> x.disk(1), 1);
        is("it is one block", () -> x.sync(), 1);
        x.down();
        is("it is there", () -> x.start() * 100 + x.get(13, 50), 1350);
        is("what was not written is not", () -> Runs.bit(x.has(13, 12)), 0);
    }

    private static void aPageIsDirty() {
        PastTree made = puts(16);
        made.checkpoint();
        made.put(16, 16L);
        is("made, or died", () -> made.disk(4), 4);
        is("it died", () -> made.page(0, 4), 1);
        is("it was made", () -> made.page(1, 4), 1);
        is("so was the root", () -> made.page(3, 4), 1);
        made.checkpoint();
        is("none", () -> made.disk(4), 0);
        made.put(20, 20L);
        is("an entry came", () -> made.page(2, 4), 1);
        is("nothing came in the other", () -> made.page(1, 4), 0);
        made.remove(0);
        is("an entry went", () -> made.page(1, 4), 1);
        is("not the root", () -> made.page(3, 4), 0);
        is("nor what died before", () -> made.page(0, 4), 0);
        is("two", () -> made.disk(4), 2);
        is("two and the head", () -> made.checkpoint(), 3);
        is("a question makes none dirty", () -> made.count(19, LOW, HIGH) + made.disk(4), 17);

        PastTree neighbour = Runs.remove(Runs.seventeen(), 0, 5);
        neighbour.checkpoint();
        neighbour.remove(6);
        is("a neighbour that died, a root that died, the page, and the new one", () -> neighbour.disk(4), 4);
        is("not page 0", () -> neighbour.page(0, 4), 0);

        PastTree parent = Runs.put(Runs.seventeen(), 17, 24);
        parent.checkpoint();
        parent.put(25, 25L);
        is("the root, in which an entry went", () -> parent.page(3, 4), 1);
        is("the leaf that died", () -> parent.page(2, 4), 1);
        is("the other leaf not", () -> parent.page(1, 4), 0);
        is("with the two that were made", () -> parent.disk(4), 4);
    }

    private static void aPageIsDirtySinceTheLatestCheckpointThatWasFinished() {
        PastTree x = puts(3);
        x.cut(1);
        is("the power goes before the head", () -> x.checkpoint(), STATE);
        is("a page while the store is down", () -> x.disk(4), 0);
        x.start();
        is("nothing is there, so that nothing is dirty", () -> x.disk(4), 0);
        x.put(1, 1L);
        x.sync();
        x.cut(1);
        is("the power goes again", () -> x.checkpoint(), STATE);
        x.start();
        is("the page is dirty still", () -> x.page(0, 4), 1);
        is("a page and the head", () -> x.checkpoint(), 2);
        is("then it is not", () -> x.page(0, 4), 0);
        x.sync();
        is("a sync changes nothing of that", () -> x.page(0, 4), 0);
    }

    private static void onlyTheHead() {
        PastTree x = new PastTree();
        is("of a new store", () -> x.checkpoint(), 1);
        is("again", () -> x.checkpoint(), 1);
        disk("two heads", x, 0, 0, 0, 2, 0);
        x.cut(0);
        is("the head itself is not written", () -> x.checkpoint(), STATE);
        is("start()", () -> x.start(), 0);
    }

    private static void aCheckpointIsFinishedWithTheHead() {
        PastTree x = puts(20);
        x.sync();
        Runs.put(x, 0, 1);
        x.cut(5);
        is("four pages and the head", () -> x.checkpoint(), 5);
        disk("finished", x, 0, 0, 22, 10, 0);
        is("it is up", () -> x.version(), 22);
        x.down();
        is("all versions so far are kept", () -> x.start(), 22);
        disk("come up", x, 0, 0, 22, 10, 0);
        is("the oldest, too", () -> x.count(1, LOW, HIGH), 1);
        is("with its root", () -> x.root(16) * 10 + x.root(17), 3);
    }

    private static void thePowerGoesAtEachBlockOfACheckpoint() {
        for (int n = 0; n < 5; n++) {
            PastTree x = puts(18);
            x.sync();
            x.remove(0);
            x.cut(n);
            is("after " + n + " blocks", () -> x.checkpoint(), STATE);
            disk("after " + n + " blocks", x, 5, 0, 0, 5 + n, 0);
            is("after " + n + " blocks: start()", () -> x.start(), 18);
            disk("after " + n + " blocks, come up", x, 5, 0, 0, 5 + n, 4);
            is("after " + n + " blocks: what waited is gone", () -> Runs.bit(x.has(18, 0)), 1);
        }
    }

    private static void asIfThereHadBeenNoCheckpoint() {
        PastTree x = puts(9);
        x.checkpoint();
        Runs.put(x, 9, 13);
        x.sync();
        x.spoil(1);
        x.cut(1);
        is("the power goes at the head", () -> x.checkpoint(), STATE);
        is("the log is not empty", () -> x.disk(0), 2);
        is("what was kept before is kept", () -> x.disk(2), 9);
        is("a spoiled block is so still", () -> x.start(), 13);
        is("one block", () -> x.disk(0), 1);
        is("the page is dirty", () -> x.disk(4), 1);
    }

    private static void whatIsKeptIsThere() {
        PastTree x = puts(17);
        x.checkpoint();
        Runs.remove(x, 0, 8);
        x.down();
        is("up to the checkpoint", () -> x.start(), 17);
        is("pages, too", () -> x.pages(), 4);
        is("they live again", () -> x.page(1, 2) + x.page(2, 2) + x.page(3, 2), -3);
        is("with all entries alive", () -> x.alive(1, 17) * 10 + x.alive(2, 17), 98);
        disk("none is dirty", x, 0, 0, 17, 5, 0);
    }

    private static void upToBeforeTheFirstBlockThatIsSpoiled() {
        for (int b = 0; b < 4; b++) {
            PastTree x = puts(3);
            x.checkpoint();
            Runs.put(x, 3, 17);
            x.sync();
            x.down();
            x.spoil(b);
            is("block " + b + " spoiled: in the log while down", () -> x.disk(0), 4);
            is("block " + b + " spoiled: start()", () -> x.start(), 3 + 4 * b);
            is("block " + b + " spoiled: in the log", () -> x.disk(0), b);
            is("block " + b + " spoiled: it is free", () -> Runs.none(() -> x.spoil(x.disk(0))), INDEX);
            is("block " + b + " spoiled: kept", () -> x.disk(2), 3);
            int latest = 3 + 4 * b;
            is("block " + b + " spoiled: keys", () -> x.count(latest, LOW, HIGH), latest);
            is("block " + b + " spoiled: no later version", () -> x.root(latest + 1), INDEX);
        }
    }

    private static void theFirstOfTwoThatAreSpoiled() {
        PastTree x = puts(16);
        x.sync();
        x.spoil(3);
        x.spoil(1);
        x.spoil(3);
        is("nothing is lost while the store is up", () -> x.version(), 16);
        is("four blocks", () -> x.disk(0), 4);
        x.down();
        is("up to before block 1", () -> x.start(), 4);
        Runs.put(x, 4, 15);
        x.sync();
        x.down();
        is("block 3 was free, so that it is not spoiled", () -> x.start(), 16);
    }

    private static void thoseBehindAreFree() {
        PastTree x = puts(12);
        x.sync();
        x.spoil(0);
        x.put(12, 12L);
        is("behind a spoiled one, too", () -> x.sync(), 1);
        x.down();
        is("nothing is there", () -> x.start(), 0);
        disk("the log is empty", x, 0, 0, 0, 4, 0);
        x.put(7, 7L);
        is("block 0 is written anew", () -> x.sync(), 1);
        x.down();
        is("it is not spoiled", () -> x.start(), 1);
        is("with what it has now", () -> x.get(1, 7), 7);
    }

    private static void spoiledTillTheLogIsEmpty() {
        PastTree x = puts(8);
        x.sync();
        x.spoil(0);
        x.spoil(1);
        x.checkpoint();
        is("an empty log has no block", () -> Runs.none(() -> x.spoil(0)), INDEX);
        Runs.put(x, 0, 7);
        x.sync();
        x.down();
        is("neither is spoiled", () -> x.start(), 16);

        PastTree y = puts(8);
        y.sync();
        y.spoil(1);
        y.put(1, 1L);
        y.sync();
        y.cut(0);
        is("a sync without a block does not mend it", () -> y.sync(), 0);
        y.down();
        is("for good", () -> y.start(), 4);
    }

    private static void laterVersionsAreGoneWithTheirPagesAndEntries() {
        PastTree x = puts(16);
        x.sync();
        x.put(3, 33L);
        x.remove(4);
        int before = x.pages();
        check.that("pages were made", before > 1);
        x.down();
        is("start()", () -> x.start(), 16);
        is("one page", () -> x.pages(), 1);
        is("no page behind it", () -> x.page(1, 0), INDEX);
        is("it lives", () -> x.page(0, 2), -1);
        is("it has its entries", () -> x.page(0, 3), 16);
        is("the key is there again", () -> Runs.bit(x.has(16, 4)), 1);
        is("with its value", () -> x.get(16, 3), 3);
        is("bound()", () -> x.bound(), 34);
        is("no version 17", () -> x.get(17, 3), INDEX);
        x.remove(9);
        is("another version 17", () -> Runs.bit(x.has(17, 9)) * 10 + x.get(17, 3), 3);
        is("its root", () -> x.root(17), 0);

        PastTree y = puts(3);
        y.sync();
        y.remove(1);
        y.put(9, 9L);
        y.down();
        y.start();
        is("an entry that came is gone", () -> y.entry(0, 3, 0), INDEX);
        is("one that went is back", () -> y.entry(0, 1, 2), -1);
        is("alive", () -> y.alive(0, 3), 3);
    }

    private static void whatTheLastVersionThatIsThereDidIsDone() {
        PastTree x = puts(3);
        x.remove(1);
        x.sync();
        x.put(1, 11L);
        x.down();
        is("start()", () -> x.start(), 4);
        is("an entry that went at it is gone", () -> x.entry(0, 1, 2), 4);
        is("its key, too", () -> Runs.bit(x.has(4, 1)), 0);
        is("two are alive", () -> x.alive(0, 4), 2);
        is("the version before has it", () -> x.get(3, 1), 1);

        PastTree y = Runs.put(puts(16), 16, 16);
        y.sync();
        Runs.put(y, 17, 19);
        y.down();
        is("start()", () -> y.start(), 17);
        is("a page that died at it is dead", () -> y.page(0, 2), 17);
        is("pages that it made are there", () -> y.pages(), 4);
        is("with the entries that came", () -> y.page(1, 3) * 100 + y.page(2, 3), 908);
        is("and its root", () -> y.root(17), 3);
    }

    private static void numbersOfPagesThatAreGoneAreUsedAgain() {
        PastTree x = Runs.seventeen();
        Runs.remove(x, 0, 6);
        is("pages 1 to 3 have died", () -> Math.min(x.page(1, 2), Math.min(x.page(2, 2), x.page(3, 2))), 24);
        x.down();
        is("all are gone", () -> x.start() * 10 + x.pages(), 1);
        Runs.put(x, 100, 116);
        for (int p = 1; p < 4; p++) {
            int page = p;
            is("page " + p + " lives", () -> x.page(page, 2), -1);
            is("page " + p + " was born now", () -> x.page(page, 1), 17);
        }
        is("their levels", () -> x.page(1, 0) * 100 + x.page(2, 0) * 10 + x.page(3, 0), 1);
        is("their entries", () -> x.page(1, 3) * 100 + x.page(2, 3) * 10 + x.page(3, 3), 982);
        is("none of the old ones", () -> x.entry(1, 0, 0), 100);
        is("without a TO", () -> x.entry(1, 6, 2), -1);
    }

    private static void pagesAreDirtyThatTheLogChanged() {
        PastTree x = Runs.seventeen();
        x.checkpoint();
        x.put(16, 1L);
        x.sync();
        x.put(0, 1L);
        is("two leaves", () -> x.disk(4), 2);
        x.down();
        is("none while down", () -> x.disk(4), 0);
        x.start();
        is("one", () -> x.disk(4), 1);
        is("that of the log's record", () -> x.page(2, 4), 1);
        is("not that of the record that is gone", () -> x.page(1, 4), 0);
        x.spoil(0);
        x.down();
        x.start();
        is("none without the log", () -> x.disk(4), 0);
        is("only the head", () -> x.checkpoint(), 1);

        PastTree y = puts(16);
        y.checkpoint();
        y.put(16, 16L);
        y.sync();
        y.down();
        y.start();
        is("what the log's record made, or what died by it", () -> y.disk(4), 4);
    }

    private static void noCutIsSetWhenItComesUp() {
        PastTree x = puts(2);
        x.cut(0);
        x.down();
        x.start();
        x.put(1, 1L);
        is("a cut that was set is not", () -> x.sync(), 1);
    }

    private static void noRecordWaitsWhenItComesUp() {
        PastTree x = puts(5);
        x.down();
        is("none while down", () -> x.disk(1), 0);
        x.start();
        is("none", () -> x.disk(1), 0);
        is("no block is written", () -> x.sync(), 0);
    }

    private static void upAndDownAgain() {
        PastTree x = new PastTree();
        for (int i = 1; i <= 20; i++) {
            x.put(i, i);
            x.sync();
            x.put(-i, i);
            x.down();
            int version = i;
            is("turn " + i, () -> x.start(), version);
        }
        is("the keys that were written", () -> x.count(20, LOW, HIGH), 20);
        is("none of the others", () -> x.next(20, LOW), 1);
        is("twenty blocks", () -> x.disk(0), 20);
    }
}
