import java.util.NoSuchElementException;

/** A store that forgets nothing: each version that ever was is asked like the latest one. */
public final class PastTree {
    private static final int NONE = -1;
    private static final int MOST_PAGES = 256;
    private static final int MOST_ENTRIES = 16;
    /** More than the 512 calls that an object is promised, so that a test can come to where no page is free. */
    private static final int MOST_VERSIONS = 800;
    /** Pages that are no root have three pages below them or more, so that 256 pages never stand this high. */
    private static final int MOST_LEVELS = 16;
    /** A page that is no root serves a version with no fewer entries alive. */
    private static final int FEWEST_ALIVE = 3;
    /** A page that is remade with fewer than this takes its neighbour in. */
    private static final int FEWEST_REMADE = 5;
    /** A list that is longer than this becomes two pages. */
    private static final int MOST_REMADE = 10;
    private static final int LOG_BLOCKS = 40;
    private static final int BLOCK_RECORDS = 4;
    private static final int ALL = Integer.MAX_VALUE;
    /** Above each int, so that it ends every walk by keys. */
    private static final long NO_KEY = Long.MAX_VALUE;

    private final Tree tree;
    private final Disk device;
    private final Row found;
    private final Row others;

    public PastTree() {
        tree = new Tree();
        device = new Disk();
        found = new Row(MOST_VERSIONS);
        others = new Row(MOST_VERSIONS);
    }

    public int put(int key, long value) throws IllegalStateException, UnsupportedOperationException {
        demandUp();
        return unlessRefused(tree.update(key, value, true));
    }

    public int remove(int key)
            throws IllegalStateException, NoSuchElementException, UnsupportedOperationException {
        demandUp();
        tree.gather(tree.latest, key, key, found);
        if (found.size == 0) {
            throw new NoSuchElementException("the latest version has no such key");
        }
        return unlessRefused(tree.update(key, 0L, false));
    }

    public int version() throws IllegalStateException {
        demandUp();
        return tree.latest;
    }

    public boolean has(int version, int key) throws IllegalStateException, IndexOutOfBoundsException {
        demandUp();
        demandVersion(version);
        tree.gather(version, key, key, found);
        return found.size > 0;
    }

    public long get(int version, int key)
            throws IllegalStateException, IndexOutOfBoundsException, NoSuchElementException {
        demandUp();
        demandVersion(version);
        tree.gather(version, key, key, found);
        if (found.size == 0) {
            throw new NoSuchElementException("the version has no such key");
        }
        return found.whatAt(0);
    }

    public int next(int version, int key)
            throws IllegalStateException, IndexOutOfBoundsException, NoSuchElementException {
        demandUp();
        demandVersion(version);
        tree.gatherSome(version, key, Integer.MAX_VALUE, 1, found);
        if (found.size == 0) {
            throw new NoSuchElementException("the version has no such key nor one above it");
        }
        return (int) found.keyAt(0);
    }

    public int count(int version, int low, int high) throws IllegalStateException, IndexOutOfBoundsException {
        demandUp();
        demandVersion(version);
        tree.gather(version, low, high, found);
        return found.size;
    }

    public long sum(int version, int low, int high) throws IllegalStateException, IndexOutOfBoundsException {
        demandUp();
        demandVersion(version);
        tree.gather(version, low, high, found);
        return found.total();
    }

    public int differs(int one, int two, int k) throws IllegalStateException, IndexOutOfBoundsException,
            IllegalArgumentException, NoSuchElementException {
        demandUp();
        demandVersion(one);
        demandVersion(two);
        if (k < 0) {
            throw new IllegalArgumentException("k is below 0");
        }
        tree.gather(one, Integer.MIN_VALUE, Integer.MAX_VALUE, found);
        tree.gather(two, Integer.MIN_VALUE, Integer.MAX_VALUE, others);
        long key = found.differing(others, k);
        if (key == NO_KEY) {
            throw new NoSuchElementException("there are not so many");
        }
        return (int) key;
    }

    public int pages() throws IllegalStateException {
        demandUp();
        return tree.made;
    }

    public int page(int p, int what)
            throws IllegalStateException, IndexOutOfBoundsException, IllegalArgumentException {
        demandUp();
        demandPage(p);
        Page page = tree.pageAt(p);
        switch (what) {
            case 0:
                return page.level;
            case 1:
                return page.born;
            case 2:
                return page.died;
            case 3:
                return page.size;
            case 4:
                return page.isChangedSince(device.kept) ? 1 : 0;
            default:
                throw new IllegalArgumentException("a page has no such property");
        }
    }

    public int alive(int p, int version) throws IllegalStateException, IndexOutOfBoundsException {
        demandUp();
        demandPage(p);
        demandVersion(version);
        Page page = tree.pageAt(p);
        return page.serves(version) ? page.living(version) : NONE;
    }

    public long entry(int p, int i, int what)
            throws IllegalStateException, IndexOutOfBoundsException, IllegalArgumentException {
        demandUp();
        demandPage(p);
        Page page = tree.pageAt(p);
        if (i < 0 || i >= page.size) {
            throw new IndexOutOfBoundsException("there is no such entry");
        }
        switch (what) {
            case 0:
                return page.keyAt(i);
            case 1:
                return page.fromAt(i);
            case 2:
                return page.toAt(i);
            case 3:
                return page.whatAt(i);
            default:
                throw new IllegalArgumentException("an entry has no such property");
        }
    }

    public int root(int version) throws IllegalStateException, IndexOutOfBoundsException {
        demandUp();
        demandVersion(version);
        return tree.rootOf(version);
    }

    public int bound() throws IllegalStateException {
        demandUp();
        return 2 + 2 * tree.latest;
    }

    public boolean dense() throws IllegalStateException {
        demandUp();
        return tree.isDense();
    }

    public int sync() throws IllegalStateException, UnsupportedOperationException {
        demandUp();
        int waiting = waitingRecords();
        if (!device.hasRoomFor(waiting)) {
            throw new UnsupportedOperationException("the log has not so many blocks left");
        }
        int blocks = device.writeRecords(waiting);
        demandUp();
        return blocks;
    }

    public int checkpoint() throws IllegalStateException {
        demandUp();
        int blocks = device.writePages(tree.changedSince(device.kept), tree.latest);
        demandUp();
        return blocks;
    }

    public void cut(int n) throws IllegalStateException, IllegalArgumentException {
        demandUp();
        if (n < NONE) {
            throw new IllegalArgumentException("no cut can be set before the next block");
        }
        device.blocksToCut = n;
    }

    public void down() throws IllegalStateException {
        demandUp();
        device.isDown = true;
    }

    public void spoil(int b) throws IndexOutOfBoundsException {
        if (b < 0 || b >= device.blocks) {
            throw new IndexOutOfBoundsException("the log has no such block");
        }
        device.spoilBlock(b);
    }

    public int start() throws IllegalStateException {
        if (!device.isDown) {
            throw new IllegalStateException("the store is not down");
        }
        device.comeUp();
        tree.goBackTo(device.latestOnDisk());
        return tree.latest;
    }

    public int disk(int what) throws IllegalArgumentException {
        switch (what) {
            case 0:
                return device.blocks;
            case 1:
                return device.isDown ? 0 : waitingRecords();
            case 2:
                return device.kept;
            case 3:
                return device.written;
            case 4:
                return device.isDown ? 0 : tree.changedSince(device.kept);
            default:
                throw new IllegalArgumentException("the disk has no such property");
        }
    }

    private static int unlessRefused(int version) {
        if (version == NONE) {
            throw new UnsupportedOperationException("fewer pages are free than an update may make");
        }
        return version;
    }

    /** Each version made one record, so that those that wait need no row of their own. */
    private int waitingRecords() {
        return tree.latest - device.latestOnDisk();
    }

    private void demandUp() {
        if (device.isDown) {
            throw new IllegalStateException("the store is down");
        }
    }

    private void demandVersion(int version) {
        if (version < 0 || version > tree.latest) {
            throw new IndexOutOfBoundsException("there is no such version");
        }
    }

    private void demandPage(int p) {
        if (p < 0 || p >= tree.made) {
            throw new IndexOutOfBoundsException("there is no such page");
        }
    }

    /** Keys in rising order, each with what belongs to it. */
    private static final class Row {
        private final int[] keys;
        private final long[] whats;
        private int size;

        Row(int room) {
            keys = new int[Math.max(room, 0)];
            whats = new long[Math.max(room, 0)];
        }

        void clear() {
            size = 0;
        }

        /** What has no room is left out; no caller makes a row that needs more than it has. */
        void insert(int key, long what) {
            if (size >= keys.length) {
                return;
            }
            int i = size;
            while (i > 0 && keys[i - 1] > key) {
                keys[i] = keys[i - 1];
                whats[i] = whats[i - 1];
                i--;
            }
            keys[i] = key;
            whats[i] = what;
            size++;
        }

        void lowerFirst(int key) {
            if (size > 0 && key < keys[0]) {
                keys[0] = key;
            }
        }

        /** NO_KEY behind the last one, so that two rows can be walked side by side to their ends. */
        long keyAt(int i) {
            return i >= 0 && i < size ? keys[i] : NO_KEY;
        }

        long whatAt(int i) {
            return i >= 0 && i < size ? whats[i] : 0L;
        }

        long total() {
            long total = 0L;
            for (int i = 0; i < size; i++) {
                total += whats[i];
            }
            return total;
        }

        /** The k-th key that just one of two rows has, or both with different whats; NO_KEY if there is none. */
        long differing(Row other, int k) {
            int mine = 0;
            int its = 0;
            int passed = 0;
            for (int turn = 0; turn < size + other.size; turn++) {
                long myKey = keyAt(mine);
                long itsKey = other.keyAt(its);
                if (myKey != itsKey || whatAt(mine) != other.whatAt(its)) {
                    if (passed == k) {
                        return Math.min(myKey, itsKey);
                    }
                    passed++;
                }
                mine += myKey <= itsKey ? 1 : 0;
                its += itsKey <= myKey ? 1 : 0;
            }
            return NO_KEY;
        }
    }

    /** Entries in the order in which they came; a TO or a death that there is not is NONE. */
    private static final class Page {
        private final int number;
        private final int[] keys;
        private final int[] froms;
        private final int[] tos;
        private final long[] whats;
        private int level;
        private int born;
        private int died;
        private int size;

        Page(int number) {
            this.number = number;
            keys = new int[MOST_ENTRIES];
            froms = new int[MOST_ENTRIES];
            tos = new int[MOST_ENTRIES];
            whats = new long[MOST_ENTRIES];
            died = NONE;
        }

        /** Pages whose versions are gone are made anew in place, for what a run makes is counted. */
        void renew(int itsLevel, int version) {
            level = itsLevel;
            born = version;
            died = NONE;
            size = 0;
        }

        boolean serves(int version) {
            return born <= version && (died == NONE || version < died);
        }

        boolean livesAt(int i, int version) {
            return i >= 0 && i < size && froms[i] <= version && (tos[i] == NONE || version < tos[i]);
        }

        int living(int version) {
            int living = 0;
            for (int i = 0; i < size; i++) {
                living += livesAt(i, version) ? 1 : 0;
            }
            return living;
        }

        int keyAt(int i) {
            return i >= 0 && i < size ? keys[i] : 0;
        }

        int fromAt(int i) {
            return i >= 0 && i < size ? froms[i] : 0;
        }

        int toAt(int i) {
            return i >= 0 && i < size ? tos[i] : NONE;
        }

        long whatAt(int i) {
            return i >= 0 && i < size ? whats[i] : 0L;
        }

        boolean hasRoomFor(int entries) {
            return size + entries <= MOST_ENTRIES;
        }

        /** Entries of a part of a row come. */
        void take(Row row, int low, int end, int version) {
            for (int i = low; i >= 0 && i < end && i < row.size && size < MOST_ENTRIES; i++) {
                keys[size] = row.keys[i];
                froms[size] = version;
                tos[size] = NONE;
                whats[size] = row.whats[i];
                size++;
            }
        }

        void end(int i, int version) {
            if (i >= 0 && i < size) {
                tos[i] = version;
            }
        }

        /** The entry alive with the greatest key that is not above one; keys are longs, for those beside any int. */
        int atOrBelow(long key, int version) {
            int best = NONE;
            for (int i = 0; i < size; i++) {
                if (livesAt(i, version) && keys[i] <= key && (best == NONE || keys[i] > keys[best])) {
                    best = i;
                }
            }
            return best;
        }

        int atOrAbove(long key, int version) {
            int best = NONE;
            for (int i = 0; i < size; i++) {
                if (livesAt(i, version) && keys[i] >= key && (best == NONE || keys[i] < keys[best])) {
                    best = i;
                }
            }
            return best;
        }

        int slotOf(int key, int version) {
            int i = atOrBelow(key, version);
            return i != NONE && keyAt(i) == key ? i : NONE;
        }

        /** The first entry stands for all keys below its own, too. */
        int standingFor(int key, int version) {
            int i = atOrBelow(key, version);
            return i != NONE ? i : atOrAbove(key, version);
        }

        int behind(int i, int version) {
            return atOrAbove(keyAt(i) + 1L, version);
        }

        int neighbourOf(int i, int version) {
            int next = atOrAbove(keyAt(i) + 1L, version);
            return next != NONE ? next : atOrBelow(keyAt(i) - 1L, version);
        }

        void copyLiving(int version, int low, int high, Row row) {
            for (int i = 0; i < size; i++) {
                if (livesAt(i, version) && keys[i] >= low && keys[i] <= high) {
                    row.insert(keys[i], whats[i]);
                }
            }
        }

        boolean isChangedSince(int version) {
            boolean changed = born > version || died > version;
            for (int i = 0; i < size && !changed; i++) {
                changed = froms[i] > version || tos[i] > version;
            }
            return changed;
        }

        void goBackTo(int version) {
            died = died > version ? NONE : died;
            while (size > 0 && froms[size - 1] > version) {
                size--;
            }
            for (int i = 0; i < size; i++) {
                tos[i] = tos[i] > version ? NONE : tos[i];
            }
        }
    }

    /** All pages of all versions, and the update that makes the next version. */
    private static final class Tree {
        private final Page first;
        private final Page[] book;
        private final int[] roots;
        private int made;
        private int latest;
        /** What the latest walk down passed, by levels. */
        private final Page[] path;
        /** The key at which the next leaf begins, behind the one that the latest walk down came to. */
        private long fence;
        /** The entries (by their places) that go in the page whose turn it is, and those that come. */
        private int goesOne;
        private int goesTwo;
        private final Row coming;
        private final Row list;
        /** The past stays as it is, so that no version has to be looked at twice. */
        private int denseBelow;

        Tree() {
            first = new Page(0);
            book = new Page[MOST_PAGES];
            book[0] = first;
            made = 1;
            roots = new int[MOST_VERSIONS + 1];
            path = new Page[MOST_LEVELS];
            coming = new Row(2);
            list = new Row(2 * MOST_ENTRIES + 2);
        }

        /** Every number leads to a page, so that no caller has to look for null. */
        Page pageAt(long p) {
            if (p < 0 || p >= made || p >= book.length) {
                return first;
            }
            Page page = book[(int) p];
            return page != null ? page : first;
        }

        int rootOf(int version) {
            return version >= 0 && version < roots.length ? roots[version] : 0;
        }

        void gather(int version, int low, int high, Row row) {
            gatherSome(version, low, high, ALL, row);
        }

        /** The keys from one to another, leaf by leaf, till there are enough. */
        void gatherSome(int version, int low, int high, int enough, Row row) {
            row.clear();
            long from = low;
            for (int leaves = 0; leaves < MOST_PAGES && from <= high && row.size < enough; leaves++) {
                Page leaf = descend(version, (int) from);
                leaf.copyLiving(version, low, high, row);
                from = fence;
            }
        }

        /** The leaf that stands for a key. */
        private Page descend(int version, int key) {
            Page page = pageAt(rootOf(version));
            fence = NO_KEY;
            for (int step = 0; step < MOST_LEVELS && page.level > 0; step++) {
                remember(page);
                int i = page.standingFor(key, version);
                int next = page.behind(i, version);
                fence = next != NONE ? page.keyAt(next) : fence;
                page = pageAt(page.whatAt(i));
            }
            remember(page);
            return page;
        }

        private void remember(Page page) {
            if (page.level >= 0 && page.level < path.length) {
                path[page.level] = page;
            }
        }

        private Page passed(int level) {
            Page page = level >= 0 && level < path.length ? path[level] : null;
            return page != null ? page : first;
        }

        /** A page of each level may become two, and a root may come above them. */
        private boolean isRefused() {
            int levels = pageAt(rootOf(latest)).level + 1;
            return MOST_PAGES - made < 2 * levels + 1 || latest >= MOST_VERSIONS;
        }

        /** The version that this makes, NONE if it is refused. */
        int update(int key, long value, boolean puts) {
            if (isRefused()) {
                return NONE;
            }
            Page leaf = descend(latest, key);
            goesOne = leaf.slotOf(key, latest);
            goesTwo = NONE;
            coming.clear();
            if (puts) {
                coming.insert(key, value);
            }
            int version = latest + 1;
            setRoot(version, rootOf(latest));
            boolean rises = true;
            for (int level = 0; level < MOST_LEVELS && rises; level++) {
                rises = changePage(level, version, key);
            }
            latest = version;
            return version;
        }

        private void setRoot(int version, int p) {
            if (version >= 0 && version < roots.length) {
                roots[version] = p;
            }
        }

        /** Whether the parent is to change then, by what goes and comes as this leaves it. */
        private boolean changePage(int level, int version, int key) {
            Page page = passed(level);
            boolean isRoot = page.number == rootOf(version);
            listWhatStays(page);
            if (isRoot && level > 0 && list.size == 1) {
                page.died = version;
                setRoot(version, (int) list.whatAt(0));
                return false;
            }
            if ((isRoot || list.size >= FEWEST_ALIVE) && page.hasRoomFor(coming.size)) {
                letGoAndCome(page, version);
                return false;
            }
            page.died = version;
            if (isRoot) {
                remakeRoot(level, version);
                return false;
            }
            remakeBelow(passed(level + 1), level, version, key);
            return true;
        }

        private void listWhatStays(Page page) {
            list.clear();
            for (int i = 0; i < page.size; i++) {
                if (page.livesAt(i, latest) && i != goesOne && i != goesTwo) {
                    list.insert(page.keyAt(i), page.whatAt(i));
                }
            }
            for (int i = 0; i < coming.size; i++) {
                list.insert((int) coming.keyAt(i), coming.whatAt(i));
            }
        }

        private void letGoAndCome(Page page, int version) {
            page.end(goesOne, version);
            page.end(goesTwo, version);
            page.take(coming, 0, coming.size, version);
        }

        private void remakeRoot(int level, int version) {
            makeFromList(level, version);
            if (coming.size == 1) {
                setRoot(version, (int) coming.whatAt(0));
                return;
            }
            Page top = makePage(level + 1, version, coming, 0, coming.size);
            setRoot(version, top.number);
        }

        /** Leaves behind what goes and comes in the parent. */
        private void remakeBelow(Page parent, int level, int version, int key) {
            goesOne = parent.standingFor(key, latest);
            goesTwo = NONE;
            int firstKey = parent.keyAt(goesOne);
            if (list.size < FEWEST_REMADE) {
                goesTwo = parent.neighbourOf(goesOne, latest);
                firstKey = Math.min(firstKey, parent.keyAt(goesTwo));
                Page neighbour = pageAt(parent.whatAt(goesTwo));
                neighbour.copyLiving(latest, Integer.MIN_VALUE, Integer.MAX_VALUE, list);
                neighbour.died = version;
            }
            makeFromList(level, version);
            coming.lowerFirst(firstKey);
        }

        /** One page of the list or two; what comes is then an entry for each, with the key of its first one. */
        private void makeFromList(int level, int version) {
            int half = list.size > MOST_REMADE ? (list.size + 1) / 2 : list.size;
            coming.clear();
            Page left = makePage(level, version, list, 0, half);
            coming.insert(left.keyAt(0), left.number);
            if (half < list.size) {
                Page right = makePage(level, version, list, half, list.size);
                coming.insert(right.keyAt(0), right.number);
            }
        }

        /** A page with the entries of a part of a row. */
        private Page makePage(int level, int version, Row row, int low, int end) {
            int number = Math.min(made, MOST_PAGES - 1);
            Page page = book[number];
            if (page == null) {
                page = new Page(number);
                book[number] = page;
            }
            page.renew(level, version);
            page.take(row, low, end, version);
            made = number + 1;
            return page;
        }

        int changedSince(int version) {
            int changed = 0;
            for (int p = 0; p < made; p++) {
                changed += pageAt(p).isChangedSince(version) ? 1 : 0;
            }
            return changed;
        }

        boolean isDense() {
            while (denseBelow <= latest && isDenseAt(denseBelow)) {
                denseBelow++;
            }
            return denseBelow > latest;
        }

        private boolean isDenseAt(int version) {
            for (int p = 0; p < made; p++) {
                Page page = pageAt(p);
                if (p != rootOf(version) && page.serves(version) && page.living(version) < FEWEST_ALIVE) {
                    return false;
                }
            }
            return true;
        }

        /** All that later versions made or ended bears their numbers, so that nothing else has to be kept for this. */
        void goBackTo(int version) {
            while (made > 1 && pageAt(made - 1).born > version) {
                made--;
            }
            for (int p = 0; p < made; p++) {
                pageAt(p).goBackTo(version);
            }
            latest = version;
            denseBelow = Math.min(denseBelow, version + 1);
        }
    }

    /** The log's blocks, the blocks that were written, and the power. */
    private static final class Disk {
        private final int[] records;
        private final boolean[] spoiled;
        private int blocks;
        private int written;
        private int kept;
        private int blocksToCut;
        private boolean isDown;

        Disk() {
            records = new int[LOG_BLOCKS];
            spoiled = new boolean[LOG_BLOCKS];
            blocksToCut = NONE;
        }

        int latestOnDisk() {
            int latest = kept;
            for (int b = 0; b < blocks; b++) {
                latest += records[b];
            }
            return latest;
        }

        private static int blocksFor(int waiting) {
            return (waiting + BLOCK_RECORDS - 1) / BLOCK_RECORDS;
        }

        boolean hasRoomFor(int waiting) {
            return blocksFor(waiting) <= LOG_BLOCKS - blocks;
        }

        /** Whether a block was written; if not, the power went. */
        private boolean writeBlock() {
            if (blocksToCut == 0) {
                isDown = true;
                return false;
            }
            blocksToCut -= blocksToCut > 0 ? 1 : 0;
            written++;
            return true;
        }

        int writeRecords(int waiting) {
            int due = blocksFor(waiting);
            for (int n = 0; n < due && blocks < LOG_BLOCKS; n++) {
                if (!writeBlock()) {
                    return n;
                }
                records[blocks] = Math.min(BLOCK_RECORDS, waiting - n * BLOCK_RECORDS);
                spoiled[blocks] = false;
                blocks++;
            }
            return due;
        }

        int writePages(int dirty, int latest) {
            for (int n = 0; n < dirty; n++) {
                if (!writeBlock()) {
                    return n;
                }
            }
            if (!writeBlock()) {
                return dirty;
            }
            kept = latest;
            blocks = 0;
            return dirty + 1;
        }

        void spoilBlock(int b) {
            if (b >= 0 && b < blocks) {
                spoiled[b] = true;
            }
        }

        void comeUp() {
            int good = 0;
            while (good < blocks && !spoiled[good]) {
                good++;
            }
            blocks = good;
            blocksToCut = NONE;
            isDown = false;
        }
    }
}
