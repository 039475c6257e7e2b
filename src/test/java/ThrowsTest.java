import java.util.LinkedHashMap;
import java.util.Map;
import java.util.function.ToLongFunction;

/**
 * The document's sentence on what methods throw: the first one named if several would do, IllegalStateException while
 * the store is down, and that what throws changes nothing but what the disk says.
 */
public final class ThrowsTest {
    private static final String STATE = "throws.IllegalStateException";
    private static final String INDEX = "throws.IndexOutOfBoundsException";
    private static final String ARGUMENT = "throws.IllegalArgumentException";
    private static final String NO_SUCH = "throws.NoSuchElementException";
    private static final String UNSUPPORTED = "throws.UnsupportedOperationException";
    private static final int LOW = Integer.MIN_VALUE;
    private static final int HIGH = Integer.MAX_VALUE;

    private static final Check check = new Check("throws");

    public static void main(String[] args) {
        for (Map.Entry<String, ToLongFunction<PastTree>> call : wrongWhileUp().entrySet()) {
            String name = call.getKey();
            whileUp(name.substring(0, name.indexOf(": ")), name.substring(name.indexOf(": ") + 2), call.getValue());
        }
        for (Map.Entry<String, ToLongFunction<PastTree>> call : allWhileDown().entrySet()) {
            whileDown(call.getKey(), call.getValue());
        }
        spoilWhileDown();
        diskWhileDown();
        startWhileUp();
        syncWithoutRoom();
        syncWithoutRoomAndWithACut();
        syncWithoutRoomWhileDown();
        thePowerGoesInASync();
        thePowerGoesInACheckpoint();
        check.end();
    }

    /** 18 versions, of which five wait; three blocks, the last one spoiled; the power goes after one more. */
    private static PastTree store() {
        PastTree x = Runs.put(new PastTree(), 0, 2);
        x.checkpoint();
        Runs.put(x, 3, 12);
        x.sync();
        x.remove(5);
        Runs.put(x, 13, 16);
        x.spoil(2);
        x.cut(1);
        return x;
    }

    /** What is thrown, and the call; where several would do, the first one named. */
    private static Map<String, ToLongFunction<PastTree>> wrongWhileUp() {
        Map<String, ToLongFunction<PastTree>> calls = new LinkedHashMap<>();
        calls.put(NO_SUCH + ": remove, never there", x -> x.remove(99));
        calls.put(NO_SUCH + ": remove, gone", x -> x.remove(5));
        calls.put(INDEX + ": has, above", x -> Runs.bit(x.has(19, 0)));
        calls.put(INDEX + ": has, below", x -> Runs.bit(x.has(-1, 0)));
        calls.put(INDEX + ": get, no version and no key", x -> x.get(19, 99));
        calls.put(INDEX + ": get, below 0 and no key", x -> x.get(-1, 99));
        calls.put(NO_SUCH + ": get", x -> x.get(18, 5));
        calls.put(INDEX + ": next, no version and no key", x -> x.next(19, HIGH));
        calls.put(INDEX + ": next, below 0 and no key", x -> x.next(-1, HIGH));
        calls.put(NO_SUCH + ": next", x -> x.next(18, 17));
        calls.put(INDEX + ": count, low above high", x -> x.count(19, 1, 0));
        calls.put(INDEX + ": sum, low above high", x -> x.sum(-1, 1, 0));
        calls.put(INDEX + ": differs, one, and k below 0", x -> x.differs(19, 0, -1));
        calls.put(INDEX + ": differs, two, and k below 0", x -> x.differs(0, 19, -1));
        calls.put(INDEX + ": differs, two below 0, and too many", x -> x.differs(0, -1, 99));
        calls.put(INDEX + ": differs, both the same", x -> x.differs(19, 19, 0));
        calls.put(ARGUMENT + ": differs, k below 0, and not so many", x -> x.differs(4, 4, -1));
        calls.put(NO_SUCH + ": differs", x -> x.differs(4, 4, 0));
        calls.put(INDEX + ": page, and what", x -> x.page(4, 5));
        calls.put(INDEX + ": page below 0, and what below", x -> x.page(-1, -1));
        calls.put(ARGUMENT + ": page", x -> x.page(3, 5));
        calls.put(INDEX + ": alive, page", x -> x.alive(4, 18));
        calls.put(INDEX + ": alive, version", x -> x.alive(3, 19));
        calls.put(INDEX + ": alive, version, of a page that does not serve it", x -> x.alive(0, 19));
        calls.put(INDEX + ": entry, page and what", x -> x.entry(4, 0, 4));
        calls.put(INDEX + ": entry, entry and what", x -> x.entry(3, 2, 4));
        calls.put(INDEX + ": entry below 0, and what below", x -> x.entry(3, -1, -1));
        calls.put(ARGUMENT + ": entry", x -> x.entry(3, 1, 4));
        calls.put(INDEX + ": root", x -> x.root(19));
        calls.put(ARGUMENT + ": cut", x -> Runs.none(() -> x.cut(-2)));
        calls.put(INDEX + ": spoil, above", x -> Runs.none(() -> x.spoil(3)));
        calls.put(INDEX + ": spoil, below", x -> Runs.none(() -> x.spoil(-1)));
        calls.put(STATE + ": start", x -> x.start());
        calls.put(ARGUMENT + ": disk, above", x -> x.disk(5));
        calls.put(ARGUMENT + ": disk, below", x -> x.disk(-1));
        return calls;
    }

    private static void whileUp(String due, String name, ToLongFunction<PastTree> call) {
        PastTree x = store();
        check.call(name, () -> call.applyAsLong(x), due);
        check.same(name + ": what it answers then", Picture.of(x), Picture.of(store()));
        PastTree y = store();
        Check.answerOf(() -> call.applyAsLong(y));
        check.same(name + ": what comes of it", future(y), future(store()));
    }

    /** The cut and the spoiled block do not show before this. */
    private static String future(PastTree x) {
        String sync = Check.answerOf(() -> x.sync());
        String disk = Picture.ofDisk(x);
        String start = Check.answerOf(() -> x.start());
        return sync + "\n" + disk + "\n" + start + "\n" + Picture.of(x);
    }

    /** Every method that names IllegalStateException for a store that is down, with arguments that are wrong, too. */
    private static Map<String, ToLongFunction<PastTree>> allWhileDown() {
        Map<String, ToLongFunction<PastTree>> calls = new LinkedHashMap<>();
        calls.put("put", x -> x.put(1, 1L));
        calls.put("remove", x -> x.remove(1));
        calls.put("remove, no such key", x -> x.remove(99));
        calls.put("version", x -> x.version());
        calls.put("has", x -> Runs.bit(x.has(0, 0)));
        calls.put("has, no such version", x -> Runs.bit(x.has(-1, 0)));
        calls.put("get", x -> x.get(1, 0));
        calls.put("get, no such version", x -> x.get(99, 0));
        calls.put("get, no such key", x -> x.get(0, 0));
        calls.put("next", x -> x.next(1, 0));
        calls.put("next, no such version", x -> x.next(99, 0));
        calls.put("next, no such key", x -> x.next(0, 0));
        calls.put("count", x -> x.count(0, 0, 0));
        calls.put("count, no such version", x -> x.count(99, 0, 0));
        calls.put("sum", x -> x.sum(0, 0, 0));
        calls.put("sum, no such version", x -> x.sum(99, 0, 0));
        calls.put("differs", x -> x.differs(0, 1, 0));
        calls.put("differs, no such version", x -> x.differs(99, 99, -1));
        calls.put("differs, k below 0", x -> x.differs(0, 1, -1));
        calls.put("differs, not so many", x -> x.differs(0, 0, 0));
        calls.put("pages", x -> x.pages());
        calls.put("page", x -> x.page(0, 0));
        calls.put("page, no such page", x -> x.page(-1, 0));
        calls.put("page, what", x -> x.page(0, 9));
        calls.put("alive", x -> x.alive(0, 0));
        calls.put("alive, no such page", x -> x.alive(99, 0));
        calls.put("alive, no such version", x -> x.alive(0, 99));
        calls.put("entry", x -> x.entry(0, 0, 0));
        calls.put("entry, no such page", x -> x.entry(99, 0, 0));
        calls.put("entry, no such entry", x -> x.entry(0, 99, 0));
        calls.put("entry, what", x -> x.entry(0, 0, 9));
        calls.put("root", x -> x.root(0));
        calls.put("root, no such version", x -> x.root(99));
        calls.put("bound", x -> x.bound());
        calls.put("dense", x -> Runs.bit(x.dense()));
        calls.put("sync", x -> x.sync());
        calls.put("checkpoint", x -> x.checkpoint());
        calls.put("cut", x -> Runs.none(() -> x.cut(0)));
        calls.put("cut, none", x -> Runs.none(() -> x.cut(-1)));
        calls.put("cut, below that", x -> Runs.none(() -> x.cut(-2)));
        calls.put("down", x -> Runs.none(x::down));
        return calls;
    }

    private static void whileDown(String name, ToLongFunction<PastTree> call) {
        PastTree x = store();
        x.down();
        PastTree y = store();
        y.down();
        check.call("down: " + name, () -> call.applyAsLong(x), STATE);
        check.same("down: " + name + ": what the disk says then", Picture.ofDisk(x), Picture.ofDisk(y));
        check.same("down: " + name + ": what comes up", Check.answerOf(() -> x.start()), "11");
        y.start();
        check.same("down: " + name + ": what it answers then", Picture.of(x), Picture.of(y));
        check.call("down: " + name + ": no cut is set", () -> x.put(1, 1L) * 10 + x.sync(), 121);
    }

    private static void spoilWhileDown() {
        PastTree x = store();
        x.down();
        check.call("down: spoil, above", () -> Runs.none(() -> x.spoil(3)), INDEX);
        check.call("down: spoil, below", () -> Runs.none(() -> x.spoil(-1)), INDEX);
        check.call("down: spoil", () -> Runs.none(() -> x.spoil(0)), 0);
        check.call("down: spoil: what comes up", () -> x.start(), 3);
    }

    private static void diskWhileDown() {
        PastTree x = store();
        x.down();
        check.call("down: disk, above", () -> x.disk(5), ARGUMENT);
        check.call("down: disk, below", () -> x.disk(-1), ARGUMENT);
        check.same("down: disk", Picture.ofDisk(x), "disk 3 0 3 5 0");
    }

    private static void startWhileUp() {
        PastTree x = store();
        x.down();
        x.start();
        check.call("start twice", () -> x.start(), STATE);
        check.call("start twice: it is up", () -> x.version(), 11);
        check.call("start of a new store", () -> new PastTree().start(), STATE);
    }

    /** 39 blocks in the log, and five records that wait. */
    private static PastTree nearlyFull() {
        PastTree x = Runs.again(new PastTree(), 0, 156);
        x.sync();
        return Runs.again(x, 0, 5);
    }

    private static void syncWithoutRoom() {
        PastTree x = nearlyFull();
        String disk = Picture.ofDisk(x);
        check.call("sync, two blocks where one is left", () -> x.sync(), UNSUPPORTED);
        check.same("sync without room: the disk", Picture.ofDisk(x), disk);
        check.call("sync without room: the version", () -> x.version(), 161);
        check.call("sync without room: again", () -> x.sync(), UNSUPPORTED);
        check.call("sync without room: a checkpoint", () -> x.checkpoint(), 1 + x.disk(4));
        check.call("sync without room: after it", () -> x.put(1, 1L) * 10 + x.sync(), 1621);
    }

    /** Nothing is written, so that no power goes in it, and the cut stays where it was. */
    private static void syncWithoutRoomAndWithACut() {
        PastTree x = nearlyFull();
        x.cut(0);
        check.call("sync without room, with a cut", () -> x.sync(), UNSUPPORTED);
        check.call("sync without room, with a cut: it is up", () -> x.version(), 161);
        check.call("sync without room, with a cut: which is set still", () -> x.checkpoint(), STATE);
        check.call("sync without room, with a cut: start", () -> x.start(), 156);
    }

    private static void syncWithoutRoomWhileDown() {
        PastTree x = nearlyFull();
        x.down();
        check.call("sync without room while down", () -> x.sync(), STATE);
        check.call("sync without room while down: start", () -> x.start(), 156);
    }

    private static void thePowerGoesInASync() {
        PastTree x = store();
        check.call("the power goes in a sync", () -> x.sync(), STATE);
        check.same("what the disk says has changed", Picture.ofDisk(x), "disk 4 0 3 6 0");
        check.call("the store is down", () -> x.pages(), STATE);
        check.call("start", () -> x.start(), 11);
    }

    private static void thePowerGoesInACheckpoint() {
        PastTree x = store();
        check.call("the power goes in a checkpoint", () -> x.checkpoint(), STATE);
        check.same("but one block is written", Picture.ofDisk(x), "disk 3 0 3 6 0");
        check.call("start", () -> x.start(), 11);
        PastTree y = store();
        y.down();
        y.start();
        check.same("all is as if there had been none", withoutWritten(Picture.of(x)), withoutWritten(Picture.of(y)));
    }

    private static String withoutWritten(String picture) {
        return picture.replaceAll("disk (\\d+ \\d+ \\d+) \\d+", "disk $1 .");
    }
}
