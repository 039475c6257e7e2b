/** Runs of updates that bring a store to where a test wants it. */
final class Runs {
    private Runs() { }

    /** The keys from one to another, by rising or falling steps of one, each with itself as its value. */
    static PastTree put(PastTree x, int from, int to) {
        int step = from <= to ? 1 : -1;
        for (int key = from; key != to + step; key += step) {
            x.put(key, key);
        }
        return x;
    }

    static PastTree remove(PastTree x, int from, int to) {
        int step = from <= to ? 1 : -1;
        for (int key = from; key != to + step; key += step) {
            x.remove(key);
        }
        return x;
    }

    /** The same key and value, again and again: each takes a place in its leaf, and as many stay alive. */
    static PastTree again(PastTree x, int key, int times) {
        for (int i = 0; i < times; i++) {
            x.put(key, key);
        }
        return x;
    }

    /** Seventeen keys: leaf 1 has 0 to 8, leaf 2 has 9 to 16, and page 3 is the root above them. */
    static PastTree seventeen() {
        return put(new PastTree(), 0, 16);
    }

    /** 125 keys on three levels: root 31 above pages 29 and 30, each above seven leaves of nine keys (the last has eight). */
    static PastTree tall() {
        return put(new PastTree(), 0, 124);
    }

    /** A tall store whose page 29 has five leaves alive of nine entries, the first of them with ten keys. */
    static PastTree tallWithFive() {
        PastTree x = tall();
        remove(x, 9, 12);
        remove(x, 0, 6);
        remove(x, 18, 18);
        remove(x, 7, 8);
        return remove(x, 13, 15);
    }

    /** One key of a tall store's second leaf goes, then keys of its first one: the last of them puts both together. */
    static void firstWithNext(PastTree x, int ofSecond, int... ofFirst) {
        x.remove(ofSecond);
        for (int key : ofFirst) {
            x.remove(key);
        }
    }

    static long bit(boolean b) {
        return b ? 1 : 0;
    }

    /** For calls without an answer. */
    static long none(Runnable call) {
        call.run();
        return 0;
    }
}
