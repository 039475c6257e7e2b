/** All that a small store answers, as one text, so that two stores can be held side by side. */
final class Picture {
    private Picture() { }

    /** Of a store that is up. */
    static String of(PastTree x) {
        StringBuilder text = new StringBuilder();
        int version = x.version();
        text.append("version ").append(version).append(", bound ").append(x.bound());
        text.append(", dense ").append(x.dense()).append('\n');
        for (int w = 0; w <= version; w++) {
            text.append(x.root(w)).append(' ').append(x.sum(w, Integer.MIN_VALUE, Integer.MAX_VALUE)).append('\n');
        }
        int pages = x.pages();
        for (int p = 0; p < pages; p++) {
            page(x, p, text);
        }
        return text.append(ofDisk(x)).toString();
    }

    private static void page(PastTree x, int p, StringBuilder text) {
        text.append("page ").append(p);
        int size = x.page(p, 3);
        for (int what : new int[] {0, 1, 2, 4}) {
            text.append(' ').append(x.page(p, what));
        }
        for (int i = 0; i < size; i++) {
            text.append(" (");
            for (int what = 0; what < 4; what++) {
                text.append(' ').append(x.entry(p, i, what));
            }
            text.append(')');
        }
        text.append('\n');
    }

    /** Of a store that is up or down. */
    static String ofDisk(PastTree x) {
        StringBuilder text = new StringBuilder("disk");
        for (int what = 0; what < 5; what++) {
            text.append(' ').append(x.disk(what));
        }
        return text.toString();
    }
}
