/** The document's "Terms", part 1, THE TREE: a test of its own for each sentence that names an edge. */
public final class TreeEdgesTest {
    private static final String INDEX = "throws.IndexOutOfBoundsException";
    private static final String NO_SUCH = "throws.NoSuchElementException";
    private static final int LOW = Integer.MIN_VALUE;
    private static final int HIGH = Integer.MAX_VALUE;

    private static final Check check = new Check("tree edges");

    public static void main(String[] args) {
        versionZeroIsWithoutKeys();
        eachUpdateMakesTheNextVersion();
        pagesHaveNumbersAsTheyAreMade();
        upToSixteenEntries();
        entriesInTheOrderInWhichTheyCame();
        anEntryIsAliveFromTo();
        aPageServesFromTo();
        anEntryStandsForItsKeysToTheNext();
        theFirstStandsForAllKeysBelow();
        aLaterVersionHasTheRootBefore();
        theSameValueGoesAndComes();
        aRootWithOneEntryDies();
        aRootWithOneEntryDiesThoughItIsFull();
        aRootThatIsALeafMayHaveOneEntryOrNone();
        aRootWithTwoEntriesStays();
        aHigherRootWithOneEntryDies();
        threeAreEnough();
        threeAreEnoughInAPageThatIsNoLeaf();
        roomForAllThatCome();
        nothingComesIntoAFullPage();
        fewerThanFiveTakeTheNeighbour();
        fewerThanFiveInAPageThatIsNoLeaf();
        aRootHasNoNeighbour();
        theNeighbourOfTheLastIsTheOneBefore();
        theNeighbourOfAnyOtherIsTheNext();
        moreThanTenAreTwo();
        theMostThatAListHas();
        newPagesAreAsTheirOldOne();
        theKeyOfTheFirstNewPage();
        theKeyOfAHigherPage();
        twoComeByKeys();
        aPageAboveHasANeighbourOfItsOwn();
        aRootRemade();
        aThirdPageIsTheRoot();
        keysAtTheEndsOfTheInts();
        check.end();
    }

    private static void is(String what, Check.Call call, Object due) {
        check.call(what, call, due);
    }

    private static int latestRoot(PastTree x) {
        return x.root(x.version());
    }

    /** What is told of a page: its level, its birth, its death and how many entries it has. */
    private static void page(String when, PastTree x, int p, int... due) {
        for (int what = 0; what < due.length; what++) {
            int w = what;
            is(when + ": page(" + p + ", " + what + ")", () -> x.page(p, w), due[what]);
        }
    }

    private static void entry(String when, PastTree x, int p, int i, long... due) {
        for (int what = 0; what < due.length; what++) {
            int w = what;
            is(when + ": entry(" + p + ", " + i + ", " + what + ")", () -> x.entry(p, i, w), due[what]);
        }
    }

    private static void versionZeroIsWithoutKeys() {
        PastTree x = Runs.seventeen();
        for (int turn = 0; turn < 2; turn++) {
            String when = "version 0, " + (turn == 0 ? "later" : "come up");
            is(when + ": count", () -> x.count(0, LOW, HIGH), 0);
            is(when + ": sum", () -> x.sum(0, LOW, HIGH), 0);
            is(when + ": has", () -> Runs.bit(x.has(0, 0)), 0);
            is(when + ": get", () -> x.get(0, 0), NO_SUCH);
            is(when + ": next", () -> x.next(0, LOW), NO_SUCH);
            is(when + ": differs from itself", () -> x.differs(0, 0, 0), NO_SUCH);
            is(when + ": alive", () -> x.alive(0, 0), 0);
            is(when + ": its root is page 0", () -> x.root(0), 0);
            is(when + ": a leaf", () -> x.page(0, 0), 0);
            is(when + ": born at 0", () -> x.page(0, 1), 0);
            if (turn == 0) {
                x.down();
                x.start();
            }
        }
    }

    private static void eachUpdateMakesTheNextVersion() {
        PastTree x = new PastTree();
        is("the first update makes 1", () -> x.put(0, 0L), 1);
        is("the same again makes 2", () -> x.put(0, 0L), 2);
        is("a remove makes 3", () -> x.remove(0), 3);
        is("a remove of no key makes none", () -> x.remove(0), NO_SUCH);
        is("nor do questions", () -> x.version() + x.count(3, LOW, HIGH) + x.pages(), 4);
        is("so that 4 is next", () -> x.put(0, 0L), 4);
    }

    private static void pagesHaveNumbersAsTheyAreMade() {
        PastTree x = Runs.tall();
        is("numbers: the latest update made five", () -> x.pages(), 32);
        is("numbers: no page behind the last", () -> x.page(32, 0), INDEX);
        int[] levels = {0, 0, 1, 1, 2};
        int[] firsts = {108, 117, 0, 63, 0};
        for (int i = 0; i < 5; i++) {
            page("numbers: from the leaf up, the first half first", x, 27 + i, levels[i], 125);
            entry("numbers: from the leaf up, the first half first", x, 27 + i, 0, firsts[i], 125, -1);
        }
    }

    private static void upToSixteenEntries() {
        PastTree x = Runs.put(new PastTree(), 0, 14);
        is("fifteen entries", () -> x.page(0, 3), 15);
        x.put(15, 15L);
        page("sixteen have room", x, 0, 0, 0, -1, 16);
        entry("the sixteenth", x, 0, 15, 15, 16, -1, 15);
        is("there is no seventeenth", () -> x.entry(0, 16, 0), INDEX);
        x.put(16, 16L);
        page("a seventeenth does not come", x, 0, 0, 0, 17, 16);
        is("there is no seventeenth, still", () -> x.entry(0, 16, 0), INDEX);
    }

    private static void entriesInTheOrderInWhichTheyCame() {
        PastTree x = new PastTree();
        int[] keys = {5, -3, 9, 5, HIGH, LOW, -3};
        for (int key : keys) {
            x.put(key, 1L);
        }
        for (int i = 0; i < keys.length; i++) {
            entry("as they came", x, 0, i, keys[i], i + 1);
        }
    }

    private static void anEntryIsAliveFromTo() {
        PastTree x = new PastTree();
        x.put(1, 10L);
        x.put(2, 20L);
        x.put(2, 21L);
        x.remove(2);
        entry("TO is the version at which it went", x, 0, 1, 2, 2, 3, 20);
        int[] due = {0, 1, 2, 2, 1};
        for (int w = 0; w < due.length; w++) {
            int version = w;
            is("alive at " + w, () -> x.alive(0, version), due[w]);
        }
        is("not alive before FROM", () -> Runs.bit(x.has(1, 2)), 0);
        is("alive at FROM", () -> x.get(2, 2), 20);
        is("not alive at TO, at which another came", () -> x.get(3, 2), 21);
        is("not alive at TO", () -> Runs.bit(x.has(4, 2)), 0);
        is("no TO: alive at all later ones", () -> x.get(4, 1), 10);
    }

    private static void aPageServesFromTo() {
        PastTree x = Runs.put(Runs.seventeen(), 17, 20);
        is("before its birth", () -> x.alive(1, 16), -1);
        is("at its birth", () -> x.alive(1, 17), 9);
        is("at the latest", () -> x.alive(1, 21), 9);
        is("before its death", () -> x.alive(0, 16), 16);
        is("at its death", () -> x.alive(0, 17), -1);
        is("later than that", () -> x.alive(0, 21), -1);
    }

    private static void anEntryStandsForItsKeysToTheNext() {
        PastTree x = new PastTree();
        for (int i = 0; i < 17; i++) {
            x.put(10 * i, i);
        }
        x.put(89, 1L);
        is("one below the next one's key", () -> x.page(1, 3), 10);
        x.put(91, 1L);
        is("one above its own key", () -> x.page(2, 3), 9);
        x.remove(90);
        x.put(90, 1L);
        is("its own key, though no entry of the leaf had it", () -> x.page(2, 3), 10);
        x.put(HIGH, 1L);
        is("the last one for all keys above", () -> x.page(2, 3), 11);
        is("asked for: below", () -> x.get(21, 89), 1);
        is("asked for: the key", () -> x.get(21, 90), 1);
        is("asked for: none then", () -> Runs.bit(x.has(20, 90)), 0);
        is("asked for: over the border", () -> x.next(20, 90), 91);
        is("asked for: from one to another over the border", () -> x.count(21, 89, 91), 3);
        is("asked for: up to the border", () -> x.count(21, 80, 89), 2);
        is("asked for: from the border", () -> x.count(21, 90, 90), 1);
    }

    private static void theFirstStandsForAllKeysBelow() {
        PastTree x = Runs.seventeen();
        x.put(-1, 1L);
        is("one below the first entry's key", () -> x.page(1, 3), 10);
        x.put(LOW, 2L);
        is("the least key", () -> x.page(1, 3), 11);
        entry("the entry above has its key still", x, 3, 0, 0, 17, -1, 1);
        is("it is found", () -> x.get(19, LOW), 2);
        is("it is the least", () -> x.next(19, LOW), LOW);
        is("another one below is not there", () -> Runs.bit(x.has(19, LOW + 1)), 0);

        PastTree y = Runs.tall();
        y.put(-7, 7L);
        is("on two levels", () -> y.page(1, 3), 10);
        is("on two levels: found", () -> y.get(126, -7), 7);
        is("on two levels: counted", () -> y.count(126, LOW, -1), 1);
    }

    private static void aLaterVersionHasTheRootBefore() {
        PastTree x = Runs.put(Runs.seventeen(), 17, 26);
        int[] versions = {0, 1, 15, 16, 17, 18, 26, 27};
        int[] roots = {0, 0, 0, 0, 3, 3, 3, 3};
        for (int i = 0; i < versions.length; i++) {
            int version = versions[i];
            is("root(" + version + ")", () -> x.root(version), roots[i]);
        }
        is("a leaf was made since", () -> x.page(5, 1), 26);
    }

    private static void theSameValueGoesAndComes() {
        PastTree x = Runs.again(new PastTree(), 4, 3);
        entry("the first went", x, 0, 0, 4, 1, 2, 4);
        entry("so did the second", x, 0, 1, 4, 2, 3, 4);
        entry("the third is there", x, 0, 2, 4, 3, -1, 4);
        is("one is alive", () -> x.alive(0, 3), 1);
    }

    private static void aRootWithOneEntryDies() {
        PastTree x = Runs.seventeen();
        Runs.remove(x, 0, 5);
        x.remove(6);
        page("the root dies", x, 3, 1, 17, 24, 2);
        entry("nothing goes in it", x, 3, 0, 0, 17, -1, 1);
        entry("nor its other entry", x, 3, 1, 9, 17, -1, 2);
        is("the page of the one entry is the root", () -> x.root(24), 4);
        is("the version before keeps its own", () -> x.root(23), 3);
        page("it is a leaf", x, 4, 0, 24, -1, 10);
        is("no other page was made", () -> x.pages(), 5);
    }

    private static void aRootWithOneEntryDiesThoughItIsFull() {
        PastTree x = Runs.again(Runs.seventeen(), 0, 14 * 8);
        page("a root with sixteen entries", x, 3, 1, 17, -1, 16);
        is("of which two are alive", () -> x.alive(3, 129), 2);
        Runs.remove(x, 0, 1);
        Runs.remove(x, 9, 13);
        is("pages before", () -> x.pages(), 18);
        x.remove(14);
        is("the root is not remade", () -> x.pages(), 19);
        page("it dies", x, 3, 1, 17, 137, 16);
        is("the leaf is the root", () -> x.root(137), 18);
        page("the leaf", x, 18, 0, 137, -1, 9);
    }

    private static void aRootThatIsALeafMayHaveOneEntryOrNone() {
        PastTree x = Runs.put(new PastTree(), 0, 2);
        x.remove(0);
        x.remove(1);
        page("one entry alive", x, 0, 0, 0, -1, 3);
        is("one", () -> x.alive(0, 5), 1);
        x.remove(2);
        page("none alive", x, 0, 0, 0, -1, 3);
        is("none", () -> x.alive(0, 6), 0);
        is("it is the root", () -> x.root(6), 0);
        is("an empty version has no next key", () -> x.next(6, LOW), NO_SUCH);
        x.put(7, 7L);
        is("a key comes into it", () -> x.get(7, 7), 7);
        is("no page was made", () -> x.pages(), 1);
    }

    private static void aRootWithTwoEntriesStays() {
        PastTree x = Runs.put(Runs.seventeen(), 17, 25);
        is("three leaves", () -> x.alive(3, 26), 3);
        Runs.remove(x, 9, 12);
        Runs.remove(x, 0, 6);
        page("two leaves: the root stays", x, 3, 1, 17, -1, 5);
        is("two leaves", () -> x.alive(3, 37), 2);
        is("it is the root", () -> x.root(37), 3);
    }

    private static void aHigherRootWithOneEntryDies() {
        PastTree x = Runs.tallWithFive();
        Runs.firstWithNext(x, 27, 16, 17, 19, 20, 21, 22, 23, 24);
        is("page 29 has four", () -> x.alive(29, x.version()), 4);
        Runs.firstWithNext(x, 36, 25, 26, 28, 29, 30, 31, 32, 33);
        is("page 29 has three, which are enough", () -> x.alive(29, x.version()), 3);
        Runs.firstWithNext(x, 45, 34, 35, 37, 38, 39, 40, 41);
        int before = x.pages();
        int v = x.remove(42);
        is("a leaf and a page above it were made", () -> x.pages(), before + 2);
        page("the root dies", x, 31, 2, 125, v, 2);
        page("page 29 dies", x, 29, 1, 125, v, 11);
        page("its neighbour dies", x, 30, 1, 125, v, 7);
        is("the page of the one entry is the root", () -> latestRoot(x), before + 1);
        page("it has what was alive of both", x, before + 1, 1, v, -1, 9);
        is("all keys are there", () -> x.count(v, LOW, HIGH), 125 - 17 - 9 - 9 - 9);
        is("dense", () -> Runs.bit(x.dense()), 1);
    }

    private static void threeAreEnough() {
        PastTree x = Runs.remove(Runs.seventeen(), 9, 13);
        page("three alive: they go", x, 2, 0, 17, -1, 8);
        is("three alive", () -> x.alive(2, 22), 3);
        x.put(14, 1L);
        page("three in the list, one goes and one comes", x, 2, 0, 17, -1, 9);
        is("three alive again", () -> x.alive(2, 23), 3);
        x.remove(14);
        page("two in the list: remade", x, 2, 0, 17, 24, 9);
        entry("nothing goes in it", x, 2, 8, 14, 23, -1, 1);
    }

    private static void threeAreEnoughInAPageThatIsNoLeaf() {
        PastTree x = Runs.tallWithFive();
        page("five alive", x, 29, 1, 125, -1, 9);
        Runs.firstWithNext(x, 27, 16, 17, 19, 20, 21, 22, 23, 24);
        Runs.firstWithNext(x, 36, 25, 26, 28, 29, 30, 31, 32, 33);
        page("three in the list of a page that is no leaf: they go and come", x, 29, 1, 125, -1, 11);
        is("three alive", () -> x.alive(29, x.version()), 3);
        entry("its neighbour lives", x, 31, 1, 63, 125, -1, 30);
    }

    private static void roomForAllThatCome() {
        PastTree x = Runs.again(Runs.seventeen(), 16, 9);
        page("one leaf remade takes one place", x, 3, 1, 17, -1, 3);
        Runs.put(x, 17, 78);
        page("fifteen places taken", x, 3, 1, 17, -1, 15);
        x.put(79, 79L);
        page("there is room for one, not for two: remade", x, 3, 1, 17, 89, 15);
        page("with all nine", x, 19, 1, 89, -1, 9);
        is("it is the root", () -> x.root(89), 19);

        PastTree y = Runs.put(Runs.seventeen(), 17, 79);
        page("room for just two", y, 3, 1, 17, -1, 16);
        is("it lives", () -> y.root(80), 3);
    }

    private static void nothingComesIntoAFullPage() {
        PastTree x = Runs.put(new PastTree(), 0, 15);
        x.remove(0);
        page("none comes, so that there is room: one goes", x, 0, 0, 0, -1, 16);
        entry("it went", x, 0, 0, 0, 1, 17, 0);
        x.put(15, 1L);
        page("what goes makes no room", x, 0, 0, 0, 18, 16);
        entry("nothing goes in a page that is remade", x, 0, 15, 15, 16, -1, 15);
        is("fifteen in two", () -> x.page(1, 3) * 100 + x.page(2, 3), 807);
    }

    private static void fewerThanFiveTakeTheNeighbour() {
        PastTree four = Runs.remove(Runs.seventeen(), 0, 4);
        Runs.again(four, 8, 7);
        page("four alive of sixteen", four, 1, 0, 17, -1, 16);
        four.put(8, 8L);
        page("four without room: the page dies", four, 1, 0, 17, 30, 16);
        page("so does its neighbour", four, 2, 0, 17, 30, 8);
        page("twelve: the first half", four, 4, 0, 30, -1, 6);
        page("twelve: the second half", four, 5, 0, 30, -1, 6);

        PastTree five = Runs.remove(Runs.seventeen(), 0, 3);
        Runs.again(five, 8, 7);
        five.put(8, 8L);
        page("five without room: the page dies", five, 1, 0, 17, 29, 16);
        page("its neighbour lives", five, 2, 0, 17, -1, 8);
        page("five: one page", five, 4, 0, 29, -1, 5);
        is("no other was made", () -> five.pages(), 5);

        PastTree three = Runs.remove(Runs.seventeen(), 0, 5);
        Runs.again(three, 8, 7);
        three.put(8, 8L);
        page("three without room: the neighbour dies", three, 2, 0, 17, 31, 8);
        page("eleven: the greater half is the first", three, 4, 0, 31, -1, 6);
        page("eleven: the lesser one the second", three, 5, 0, 31, -1, 5);
    }

    private static void fewerThanFiveInAPageThatIsNoLeaf() {
        PastTree five = Runs.again(Runs.tallWithFive(), 62, 7 * 8);
        page("five alive of sixteen, no leaf", five, 29, 1, 125, -1, 16);
        Runs.again(five, 62, 8);
        page("five without room: the page dies", five, 29, 1, 125, 206, 16);
        page("its neighbour lives", five, 30, 1, 125, -1, 7);
        page("five: one page", five, latestPage(five), 1, 206, -1, 5);
        page("in the root one comes", five, 31, 2, 125, -1, 3);

        PastTree four = Runs.tallWithFive();
        Runs.firstWithNext(four, 27, 16, 17, 19, 20, 21, 22, 23, 24);
        Runs.again(four, 62, 6 * 8);
        page("four alive of sixteen, no leaf", four, 29, 1, 125, -1, 16);
        is("four", () -> four.alive(29, 199), 4);
        Runs.again(four, 62, 8);
        page("four without room: the page dies", four, 29, 1, 125, 207, 16);
        page("so does its neighbour", four, 30, 1, 125, 207, 7);
        page("eleven: the second half", four, latestPage(four), 1, 207, -1, 5);
        page("eleven: the first half", four, latestPage(four) - 1, 1, 207, -1, 6);
        page("in the root two come", four, 31, 2, 125, -1, 4);
    }

    private static int latestPage(PastTree x) {
        return x.pages() - 1;
    }

    private static void aRootHasNoNeighbour() {
        PastTree x = Runs.again(new PastTree(), 5, 16);
        x.put(5, 5L);
        page("a root with one in the list is remade alone", x, 1, 0, 17, -1, 1);
        is("it is the root", () -> x.root(17), 1);
        Runs.again(x, 5, 15);
        page("sixteen again", x, 1, 0, 17, -1, 16);
        x.remove(5);
        page("a remove needs no room", x, 1, 0, 17, -1, 16);
        x.put(6, 6L);
        page("a list of what comes alone", x, 2, 0, 34, -1, 1);

        PastTree y = Runs.again(Runs.seventeen(), 0, 14 * 8);
        Runs.again(y, 0, 8);
        page("a full root above two leaves dies", y, 3, 1, 17, 137, 16);
        page("it is remade with two entries", y, latestRoot(y), 1, 137, -1, 2);
    }

    private static void theNeighbourOfTheLastIsTheOneBefore() {
        PastTree x = Runs.put(Runs.seventeen(), 17, 25);
        Runs.remove(x, 25, 20);
        page("the last of three leaves dies", x, 5, 0, 26, 32, 8);
        page("and the one before it", x, 4, 0, 26, 32, 9);
        page("not the first one", x, 1, 0, 17, -1, 9);
        page("two and nine: six", x, 6, 0, 32, -1, 6);
        page("two and nine: five", x, 7, 0, 32, -1, 5);
        entry("the first with the KEY of the one before", x, 3, 4, 9, 32, -1, 6);
        entry("the second with its own", x, 3, 5, 15, 32, -1, 7);
    }

    private static void theNeighbourOfAnyOtherIsTheNext() {
        PastTree x = Runs.put(Runs.seventeen(), 17, 25);
        Runs.remove(x, 9, 15);
        page("the second of three leaves dies", x, 4, 0, 26, 33, 9);
        page("and the next one", x, 5, 0, 26, 33, 8);
        page("not the one before", x, 1, 0, 17, -1, 9);
        page("two and eight: one page of ten", x, 6, 0, 33, -1, 10);
        entry("with the KEY of the first that went", x, 3, 4, 9, 33, -1, 6);

        PastTree y = Runs.put(Runs.seventeen(), 17, 25);
        Runs.remove(y, 0, 6);
        page("of the first the second", y, 4, 0, 26, 33, 9);
        page("not the last", y, 5, 0, 26, -1, 8);
    }

    private static void moreThanTenAreTwo() {
        PastTree ten = Runs.again(Runs.put(new PastTree(), 0, 9), 9, 7);
        is("ten: one page", () -> ten.pages(), 2);
        page("ten", ten, 1, 0, 17, -1, 10);

        PastTree eleven = Runs.again(Runs.put(new PastTree(), 0, 10), 10, 6);
        is("eleven: two pages and a root", () -> eleven.pages(), 4);
        page("eleven: the greater half is the first", eleven, 1, 0, 17, -1, 6);
        page("eleven: the second", eleven, 2, 0, 17, -1, 5);
        entry("eleven: the first half by keys", eleven, 1, 5, 5);
        entry("eleven: the second half by keys", eleven, 2, 0, 6);

        PastTree twelve = Runs.again(Runs.put(new PastTree(), 0, 11), 11, 5);
        page("twelve: half", twelve, 1, 0, 17, -1, 6);
        page("twelve: the other half", twelve, 2, 0, 17, -1, 6);

        PastTree nine = Runs.remove(Runs.put(Runs.seventeen(), 17, 17), 0, 6);
        page("two of a leaf and nine of its neighbour", nine, 4, 0, 25, -1, 6);
        page("are two pages", nine, 5, 0, 25, -1, 5);
        PastTree eight = Runs.remove(Runs.seventeen(), 0, 6);
        page("two and eight are one", eight, 4, 0, 24, -1, 10);
    }

    private static void theMostThatAListHas() {
        PastTree x = Runs.put(Runs.seventeen(), 17, 24);
        Runs.remove(x, 0, 4);
        Runs.again(x, 8, 7);
        is("a full neighbour", () -> x.alive(2, 37), 16);
        x.put(8, 8L);
        page("four and sixteen: ten", x, 4, 0, 38, -1, 10);
        page("four and sixteen: and ten", x, 5, 0, 38, -1, 10);
        entry("the last of the first", x, 4, 9, 14);
        entry("the first of the second", x, 5, 0, 15);
        entry("the last of the second", x, 5, 9, 24);
        is("all are there", () -> x.sum(38, LOW, HIGH), 5 + 24 * 25 / 2 - 15);
    }

    private static void newPagesAreAsTheirOldOne() {
        PastTree x = new PastTree();
        for (int i = 16; i > 0; i--) {
            x.put(10 * i, -i);
        }
        x.put(85, Long.MIN_VALUE);
        page("the level of the old one", x, 1, 0, 17, -1, 9);
        for (int i = 0; i < 8; i++) {
            entry("FROM v and no TO, by keys", x, 1, i, 10 * (i + 1), 17, -1, -i - 1);
            entry("FROM v and no TO, by keys", x, 2, i, 10 * (i + 9), 17, -1, -i - 9);
        }
        entry("what came is among them", x, 1, 8, 85, 17, -1, Long.MIN_VALUE);
        entry("the old ones keep their FROM", x, 0, 0, 160, 1, -1, -16);
    }

    private static void theKeyOfTheFirstNewPage() {
        PastTree x = Runs.seventeen();
        x.remove(9);
        Runs.again(x, 16, 9);
        page("a leaf remade alone", x, 4, 0, 27, -1, 7);
        entry("its own first key is greater", x, 4, 0, 10);
        entry("the KEY is that of what goes", x, 3, 2, 9, 27, -1, 4);
        entry("which goes", x, 3, 1, 9, 17, 27, 2);

        PastTree y = Runs.seventeen();
        y.put(-5, 1L);
        Runs.again(y, 8, 7);
        page("the first leaf remade alone", y, 4, 0, 25, -1, 10);
        entry("the KEY is its own first key, which is less", y, 3, 2, -5, 25, -1, 4);

        PastTree z = Runs.again(Runs.seventeen(), 8, 8);
        entry("both are the same", z, 3, 2, 0, 25, -1, 4);

        PastTree last = Runs.put(Runs.seventeen(), 17, 25);
        last.remove(9);
        Runs.remove(last, 25, 20);
        entry("the last leaf with the one before it, which has lost its first key", last, 6, 0, 10);
        entry("the KEY is that of the first of those that go, by keys", last, 3, 4, 9, 33, -1, 6);
        is("no other is alive for it", () -> last.alive(3, 33), 2);
        PastTree middle = Runs.put(Runs.seventeen(), 17, 25);
        Runs.remove(middle, 9, 15);
        entry("a leaf with the next one", middle, 6, 0, 16);
        entry("the KEY is its own, which goes", middle, 3, 4, 9, 33, -1, 6);

        PastTree w = Runs.put(Runs.seventeen(), -1, -8);
        entry("two pages: the first with its own first key", w, 3, 2, -8, 25, -1, 4);
        entry("two pages: the second with its own", w, 3, 3, 1, 25, -1, 5);
    }

    private static void theKeyOfAHigherPage() {
        PastTree x = Runs.put(Runs.tall(), -1, -39);
        page("the page above the first leaves has one place left", x, 29, 1, 125, -1, 15);
        entry("the root's KEY is as it was", x, 31, 0, 0, 125, -1, 29);
        x.put(-40, -40L);
        page("it is remade", x, 29, 1, 125, 165, 15);
        entry("the root's new KEY is that of the page's own first entry", x, 31, 2, -40, 165, -1, x.pages() - 2);
        entry("the second's, too", x, 31, 3, 9, 165, -1, x.pages() - 1);
    }

    private static void twoComeByKeys() {
        PastTree x = Runs.put(Runs.seventeen(), 17, 25);
        page("one goes, two come", x, 3, 1, 17, -1, 4);
        entry("the one that went", x, 3, 1, 9, 17, 26, 2);
        entry("behind all others, the lesser key first", x, 3, 2, 9, 26, -1, 4);
        entry("then the greater", x, 3, 3, 18, 26, -1, 5);
        PastTree y = Runs.put(Runs.seventeen(), -1, -8);
        entry("also if their keys are less than others'", y, 3, 2, -8, 25, -1, 4);
        entry("then the greater", y, 3, 3, 1, 25, -1, 5);
    }

    /** A leaf takes its neighbour, and then its parent is remade alone: above that, one goes. */
    private static void aPageAboveHasANeighbourOfItsOwn() {
        PastTree x = Runs.again(Runs.tall(), 62, 9 * 8);
        page("a full page above leaves", x, 29, 1, 125, -1, 16);
        int v = Runs.remove(x, 0, 6).version();
        page("the leaf dies", x, 1, 0, 17, v, 9);
        page("its neighbour dies", x, 4, 0, 26, v, 9);
        page("the page above them dies", x, 29, 1, 125, v, 16);
        page("the one beside it lives", x, 30, 1, 125, -1, 7);
        page("seven leaves in the new one", x, latestPage(x), 1, v, -1, 7);
        page("in the root one comes", x, 31, 2, 125, -1, 3);
        entry("one goes", x, 31, 0, 0, 125, v, 29);
        entry("the other does not", x, 31, 1, 63, 125, -1, 30);
        is("two are alive", () -> x.alive(31, v), 2);
        is("all keys are there", () -> x.count(v, LOW, HIGH), 118);
    }

    private static void aRootRemade() {
        PastTree x = Runs.put(new PastTree(), 0, 9);
        Runs.again(x, 0, 6);
        page("a full leaf", x, 0, 0, 0, -1, 16);
        x.put(3, 30L);
        page("one page", x, 1, 0, 17, -1, 10);
        is("is the root of v", () -> x.root(17), 1);
        is("not of the version before", () -> x.root(16), 0);
        is("its value", () -> x.get(17, 3), 30);
        is("the value before", () -> x.get(16, 3), 3);
    }

    private static void aThirdPageIsTheRoot() {
        PastTree x = Runs.put(new PastTree(), 100, 115);
        x.put(50, 50L);
        page("one level higher", x, 3, 1, 17, -1, 2);
        entry("with the KEY of the first one's first entry", x, 3, 0, 50, 17, -1, 1);
        entry("and that of the second's", x, 3, 1, 108, 17, -1, 2);
        is("it is the root", () -> x.root(17), 3);

        PastTree gone = Runs.put(new PastTree(), 0, 0);
        gone.remove(0);
        Runs.put(gone, 1, 16);
        entry("the KEY of its first entry, not of one that went", gone, 3, 0, 1, 18, -1, 1);
        entry("and that of the second's", gone, 3, 1, 9, 18, -1, 2);

        PastTree y = Runs.tall();
        page("two levels higher", y, 31, 2, 125, -1, 2);
        entry("fourteen: seven in the first", y, 31, 0, 0, 125, -1, 29);
        entry("and seven in the second", y, 31, 1, 63, 125, -1, 30);
    }

    /** Keys beside which there is no int: whoever adds one to them or takes one away is led astray. */
    private static void keysAtTheEndsOfTheInts() {
        PastTree x = Runs.put(new PastTree(), HIGH - 15, HIGH - 1);
        x.put(HIGH, HIGH);
        x.put(LOW, LOW);
        entry("the least key of all in the root", x, 3, 0, LOW, 17, -1, 1);
        Runs.again(x, HIGH, 9);
        is("the last leaf is remade", () -> x.page(2, 2), 26);
        for (int i = 1; i < 6; i++) {
            x.remove(HIGH - i);
        }
        x.remove(HIGH);
        page("the last leaf takes the one before it", x, 1, 0, 17, 32, 9);
        is("what is left is in order", () -> x.next(32, LOW + 1), HIGH - 15);
        is("and in one count", () -> x.count(32, LOW, HIGH), 11);
        is("none above", () -> x.next(32, HIGH), NO_SUCH);

        PastTree y = Runs.put(new PastTree(), LOW, LOW + 16);
        Runs.remove(y, LOW, LOW + 6);
        page("the first leaf takes the next one", y, 2, 0, 17, 24, 8);
        is("the next of the least", () -> y.next(24, LOW), LOW + 7);
    }
}
