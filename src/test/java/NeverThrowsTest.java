import java.util.Random;
import java.util.Set;

/** Whatever the arguments and the state, also long after the 512th call: nothing is thrown but what the face names. */
public final class NeverThrowsTest {
    private static final int[] WILD = {Integer.MIN_VALUE, -257, -2, -1, 0, 1, 2, 3, 4, 5, 15, 16, 17, 39, 40, 255,
        256, 511, 512, 799, 800, 801, 4096, Integer.MAX_VALUE};
    private static final Set<String> NAMED = Set.of("IllegalStateException", "IndexOutOfBoundsException",
            "IllegalArgumentException", "NoSuchElementException", "UnsupportedOperationException");

    private static final Check check = new Check("never throws");

    public static void main(String[] args) {
        for (int seed = 0; seed < 40; seed++) {
            wildRun(seed);
        }
        manyVersions();
        check.end();
    }

    private static void wildRun(int seed) {
        Random random = new Random(seed);
        PastTree x = new PastTree();
        int spread = 1 + random.nextInt(seed % 2 == 0 ? 30 : 3000);
        for (int i = 0; i < 6000; i++) {
            int dice = random.nextInt(100);
            if (dice < 35) {
                answer(() -> x.put(random.nextInt(spread), random.nextLong()));
            } else if (dice < 60) {
                answer(() -> x.remove(random.nextInt(spread)));
            } else if (dice < 62) {
                answer(() -> x.start());
            } else {
                wildCall(x, random.nextInt(23), pick(random), pick(random), pick(random));
            }
        }
    }

    private static int pick(Random random) {
        return random.nextInt(3) == 0 ? random.nextInt(300) : WILD[random.nextInt(WILD.length)];
    }

    private static void wildCall(PastTree x, int method, int a, int b, int c) {
        answer(() -> switch (method) {
            case 0 -> x.put(a, b);
            case 1 -> x.remove(a);
            case 2 -> x.version();
            case 3 -> x.has(a, b) ? 1 : 0;
            case 4 -> x.get(a, b);
            case 5 -> x.next(a, b);
            case 6 -> x.count(a, b, c);
            case 7 -> x.sum(a, b, c);
            case 8 -> x.differs(a, b, c);
            case 9 -> x.pages();
            case 10 -> x.page(a, b);
            case 11 -> x.alive(a, b);
            case 12 -> x.entry(a, b, c);
            case 13 -> x.root(a);
            case 14 -> x.bound();
            case 15 -> x.dense() ? 1 : 0;
            case 16 -> x.sync();
            case 17 -> x.checkpoint();
            case 18 -> Runs.none(() -> x.cut(a));
            case 19 -> a % 5 == 0 ? Runs.none(x::down) : 0;
            case 20 -> Runs.none(() -> x.spoil(a));
            case 21 -> x.start();
            default -> x.disk(a);
        });
    }

    private static void answer(Check.Call call) {
        String answer = Check.answerOf(call);
        check.that(answer + " is named", !answer.startsWith("throws.") || NAMED.contains(answer.substring(7)));
    }

    private static void manyVersions() {
        PastTree x = new PastTree();
        for (int i = 0; i < 2000; i++) {
            int key = i;
            answer(() -> x.put(key, key));
            answer(() -> x.sync());
        }
        int version = x.version();
        check.that("as many versions as are promised", version >= 512);
        check.call("all keys of the latest version", () -> x.count(version, 0, 4000), version);
        check.call("keys that differ", () -> x.differs(0, version, version - 1), version - 1);
    }
}
