import java.util.ArrayList;
import java.util.List;
import java.util.NoSuchElementException;
import java.util.TreeMap;
import java.util.TreeSet;

/**
 * A second PastTree, written from the document in another way: versions are whole maps, dirty pages are marked,
 * and a store that comes up plays its records again on a copy of what was kept.
 */
final class Model {
    private static final class Entry {
        final int key;
        final int from;
        final long what;
        int to = -1;

        Entry(int key, int from, long what) {
            this.key = key;
            this.from = from;
            this.what = what;
        }

        boolean alive(int w) {
            return from <= w && (to == -1 || to > w);
        }
    }

    private static final class Sheet {
        int level;
        int born;
        int died = -1;
        boolean dirty;
        final List<Entry> entries = new ArrayList<>();

        TreeMap<Integer, Entry> alive(int w) {
            TreeMap<Integer, Entry> alive = new TreeMap<>();
            for (Entry e : entries) {
                if (e.alive(w) && alive.put(e.key, e) != null) {
                    throw new AssertionError("two entries alive with one key");
                }
            }
            return alive;
        }

        Entry standsFor(int key, int w) {
            TreeMap<Integer, Entry> alive = alive(w);
            return alive.floorKey(key) != null ? alive.floorEntry(key).getValue() : alive.firstEntry().getValue();
        }
    }

    /** What is lost when the power goes. */
    private static final class State {
        final List<Sheet> sheets = new ArrayList<>();
        final List<Integer> roots = new ArrayList<>();
        final List<TreeMap<Integer, Long>> maps = new ArrayList<>();

        State copy() {
            State copy = new State();
            for (Sheet s : sheets) {
                Sheet t = new Sheet();
                t.level = s.level;
                t.born = s.born;
                t.died = s.died;
                for (Entry e : s.entries) {
                    Entry f = new Entry(e.key, e.from, e.what);
                    f.to = e.to;
                    t.entries.add(f);
                }
                copy.sheets.add(t);
            }
            copy.roots.addAll(roots);
            copy.maps.addAll(maps);
            return copy;
        }

        int latest() {
            return roots.size() - 1;
        }
    }

    private record Update(int key, long value, boolean puts) { }

    private State now = new State();
    private State kept;
    private final List<Update> waiting = new ArrayList<>();
    private final List<List<Update>> log = new ArrayList<>();
    private final TreeSet<Integer> spoiled = new TreeSet<>();
    private int written;
    private int cut = -1;
    private boolean isDown;
    private boolean wasTogether;

    /** How often each rule was used, so that a test can say that its runs came to all of them. */
    final TreeMap<String, Integer> used = new TreeMap<>();

    Model() {
        now.sheets.add(new Sheet());
        now.roots.add(0);
        now.maps.add(new TreeMap<>());
        kept = now.copy();
    }

    private void use(String rule) {
        used.merge(rule, 1, Integer::sum);
    }

    // ---- the update

    private void play(Update u) {
        wasTogether = false;
        int v = now.latest() + 1;
        List<Integer> path = new ArrayList<>();
        int p = now.roots.get(v - 1);
        path.add(p);
        while (now.sheets.get(p).level > 0) {
            p = (int) now.sheets.get(p).standsFor(u.key, v - 1).what;
            path.add(p);
        }
        now.roots.add(now.roots.get(v - 1));
        List<Entry> go = new ArrayList<>();
        List<Entry> come = new ArrayList<>();
        Entry old = now.sheets.get(p).alive(v - 1).get(u.key);
        if (old != null) {
            go.add(old);
        }
        TreeMap<Integer, Long> map = new TreeMap<>(now.maps.get(v - 1));
        if (u.puts) {
            come.add(new Entry(u.key, v, u.value));
            map.put(u.key, u.value);
        } else {
            map.remove(u.key);
        }
        now.maps.add(map);
        change(path, path.size() - 1, v, go, come);
    }

    private void change(List<Integer> path, int at, int v, List<Entry> go, List<Entry> come) {
        Sheet sheet = now.sheets.get(path.get(at));
        boolean isRoot = at == 0;
        TreeMap<Integer, Entry> list = sheet.alive(v - 1);
        for (Entry e : go) {
            list.remove(e.key);
        }
        for (Entry e : come) {
            list.put(e.key, e);
        }
        if (isRoot && sheet.level > 0 && list.size() == 1) {
            use("root with one entry dies");
            die(sheet, v);
            now.roots.set(v, (int) list.firstEntry().getValue().what);
        } else if ((isRoot || list.size() >= 3) && sheet.entries.size() + come.size() <= 16) {
            for (Entry e : go) {
                e.to = v;
            }
            sheet.entries.addAll(come);
            sheet.dirty = true;
        } else {
            remake(path, at, v, list);
        }
    }

    private void die(Sheet sheet, int v) {
        sheet.died = v;
        sheet.dirty = true;
    }

    private void remake(List<Integer> path, int at, int v, TreeMap<Integer, Entry> list) {
        Sheet sheet = now.sheets.get(path.get(at));
        String kind = (sheet.level == 0 ? "leaf" : "inner page") + (at == 0 ? " as root" : "");
        die(sheet, v);
        List<Entry> go = new ArrayList<>();
        if (at > 0) {
            TreeMap<Integer, Entry> brothers = now.sheets.get(path.get(at - 1)).alive(v - 1);
            Entry mine = brothers.values().stream().filter(e -> e.what == path.get(at)).findFirst().get();
            go.add(mine);
            boolean alone = list.size() >= 5;
            if (alone && wasTogether) {
                use(kind + " alone, after one below it with its neighbour");
            }
            wasTogether = !alone;
            if (!alone) {
                boolean last = brothers.lastKey() == mine.key;
                use(kind + (last ? " with the one before it" : " with the next one")
                        + (list.size() < 3 ? ", too few" : ", no room"));
                Entry other = (last ? brothers.lowerEntry(mine.key) : brothers.higherEntry(mine.key)).getValue();
                go.add(last ? 0 : 1, other);
                Sheet neighbour = now.sheets.get((int) other.what);
                list.putAll(neighbour.alive(v - 1));
                die(neighbour, v);
            }
        }
        List<Entry> all = new ArrayList<>(list.values());
        int first = all.size() <= 10 ? all.size() : all.size() - all.size() / 2;
        use(kind + " remade into " + (first < all.size() ? "two" : "one"));
        List<Integer> made = new ArrayList<>();
        made.add(make(sheet.level, v, all.subList(0, first)));
        if (first < all.size()) {
            made.add(make(sheet.level, v, all.subList(first, all.size())));
        }
        List<Entry> come = new ArrayList<>();
        for (int p : made) {
            int key = now.sheets.get(p).entries.get(0).key;
            if (at > 0 && come.isEmpty() && go.get(0).key < key) {
                use(kind + " keeps the key in the parent");
                key = go.get(0).key;
            } else if (at > 0 && come.isEmpty() && go.get(0).key > key) {
                use(kind + " has a lesser key in the parent");
            }
            come.add(new Entry(key, v, p));
        }
        if (at > 0) {
            change(path, at - 1, v, go, come);
        } else if (made.size() == 1) {
            now.roots.set(v, made.get(0));
        } else {
            now.roots.set(v, make(sheet.level + 1, v, come));
        }
    }

    private int make(int level, int v, List<Entry> entries) {
        Sheet sheet = new Sheet();
        sheet.level = level;
        sheet.born = v;
        sheet.dirty = true;
        for (Entry e : entries) {
            sheet.entries.add(new Entry(e.key, v, e.what));
        }
        now.sheets.add(sheet);
        return now.sheets.size() - 1;
    }

    private int update(Update u) {
        int levels = now.sheets.get(now.roots.get(now.latest())).level + 1;
        if (256 - now.sheets.size() < 2 * levels + 1) {
            use("refused");
            throw new UnsupportedOperationException();
        }
        play(u);
        waiting.add(u);
        return now.latest();
    }

    // ---- the face

    private void up() {
        if (isDown) {
            throw new IllegalStateException();
        }
    }

    private void index(int i, int size) {
        if (i < 0 || i >= size) {
            throw new IndexOutOfBoundsException();
        }
    }

    private TreeMap<Integer, Long> map(int version) {
        up();
        index(version, now.maps.size());
        return now.maps.get(version);
    }

    private Sheet sheet(int p) {
        up();
        index(p, now.sheets.size());
        return now.sheets.get(p);
    }

    int put(int key, long value) {
        up();
        return update(new Update(key, value, true));
    }

    int remove(int key) {
        up();
        if (!now.maps.get(now.latest()).containsKey(key)) {
            throw new NoSuchElementException();
        }
        return update(new Update(key, 0, false));
    }

    int version() {
        up();
        return now.latest();
    }

    boolean has(int version, int key) {
        return map(version).containsKey(key);
    }

    long get(int version, int key) {
        Long value = map(version).get(key);
        if (value == null) {
            throw new NoSuchElementException();
        }
        return value;
    }

    int next(int version, int key) {
        Integer next = map(version).ceilingKey(key);
        if (next == null) {
            throw new NoSuchElementException();
        }
        return next;
    }

    int count(int version, int low, int high) {
        TreeMap<Integer, Long> map = map(version);
        return low > high ? 0 : map.subMap(low, true, high, true).size();
    }

    long sum(int version, int low, int high) {
        TreeMap<Integer, Long> map = map(version);
        return low > high ? 0 : map.subMap(low, true, high, true).values().stream().mapToLong(x -> x).sum();
    }

    int differs(int one, int two, int k) {
        TreeMap<Integer, Long> a = map(one);
        TreeMap<Integer, Long> b = map(two);
        if (k < 0) {
            throw new IllegalArgumentException();
        }
        TreeSet<Integer> keys = new TreeSet<>(a.keySet());
        keys.addAll(b.keySet());
        keys.removeIf(key -> a.containsKey(key) && a.get(key).equals(b.get(key)));
        if (k >= keys.size()) {
            throw new NoSuchElementException();
        }
        return keys.stream().skip(k).findFirst().get();
    }

    int pages() {
        up();
        return now.sheets.size();
    }

    int page(int p, int what) {
        Sheet s = sheet(p);
        return switch (what) {
            case 0 -> s.level;
            case 1 -> s.born;
            case 2 -> s.died;
            case 3 -> s.entries.size();
            case 4 -> s.dirty ? 1 : 0;
            default -> throw new IllegalArgumentException();
        };
    }

    int alive(int p, int version) {
        Sheet s = sheet(p);
        map(version);
        boolean serves = s.born <= version && (s.died == -1 || s.died > version);
        return serves ? s.alive(version).size() : -1;
    }

    long entry(int p, int i, int what) {
        Sheet s = sheet(p);
        index(i, s.entries.size());
        Entry e = s.entries.get(i);
        return switch (what) {
            case 0 -> e.key;
            case 1 -> e.from;
            case 2 -> e.to;
            case 3 -> e.what;
            default -> throw new IllegalArgumentException();
        };
    }

    int root(int version) {
        map(version);
        return now.roots.get(version);
    }

    int bound() {
        up();
        return 2 + 2 * now.latest();
    }

    boolean dense() {
        up();
        for (int w = 0; w <= now.latest(); w++) {
            for (int p = 0; p < now.sheets.size(); p++) {
                int alive = alive(p, w);
                if (now.roots.get(w) != p && alive >= 0 && alive < 3) {
                    return false;
                }
            }
        }
        return true;
    }

    private void write() {
        if (cut == 0) {
            power();
            throw new IllegalStateException();
        }
        if (cut > 0) {
            cut--;
        }
        written++;
    }

    private void power() {
        isDown = true;
        cut = -1;
        waiting.clear();
    }

    int sync() {
        up();
        int blocks = (waiting.size() + 3) / 4;
        if (log.size() + blocks > 40) {
            use("log full");
            throw new UnsupportedOperationException();
        }
        while (!waiting.isEmpty()) {
            List<Update> block = waiting.subList(0, Math.min(4, waiting.size()));
            write();
            log.add(new ArrayList<>(block));
            block.clear();
        }
        return blocks;
    }

    int checkpoint() {
        up();
        int dirty = disk(4);
        for (int i = 0; i <= dirty; i++) {
            write();
        }
        for (Sheet s : now.sheets) {
            s.dirty = false;
        }
        kept = now.copy();
        log.clear();
        spoiled.clear();
        waiting.clear();
        return dirty + 1;
    }

    void cut(int n) {
        up();
        if (n < -1) {
            throw new IllegalArgumentException();
        }
        cut = n;
    }

    void down() {
        up();
        power();
    }

    void spoil(int b) {
        index(b, log.size());
        spoiled.add(b);
    }

    int start() {
        if (!isDown) {
            throw new IllegalStateException();
        }
        isDown = false;
        if (!spoiled.isEmpty()) {
            use("spoiled blocks are free");
            log.subList(spoiled.first(), log.size()).clear();
            spoiled.clear();
        }
        now = kept.copy();
        for (List<Update> block : log) {
            for (Update u : block) {
                play(u);
            }
        }
        return now.latest();
    }

    int disk(int what) {
        return switch (what) {
            case 0 -> log.size();
            case 1 -> isDown ? 0 : waiting.size();
            case 2 -> kept.latest();
            case 3 -> written;
            case 4 -> isDown ? 0 : (int) now.sheets.stream().filter(s -> s.dirty).count();
            default -> throw new IllegalArgumentException();
        };
    }

    boolean isUp() {
        return !isDown;
    }

    /** Whether every key of every version stands where the entries lead, and no leaf that serves one has others. */
    boolean leadsToAllKeys() {
        for (int w = 0; w <= now.latest(); w++) {
            int alive = 0;
            for (Sheet s : now.sheets) {
                boolean serves = s.level == 0 && s.born <= w && (s.died == -1 || s.died > w);
                alive += serves ? s.alive(w).size() : 0;
            }
            for (int key : now.maps.get(w).keySet()) {
                Sheet s = now.sheets.get(now.roots.get(w));
                while (s.level > 0) {
                    s = now.sheets.get((int) s.standsFor(key, w).what);
                }
                Entry e = s.alive(w).get(key);
                if (e == null || e.what != now.maps.get(w).get(key)) {
                    return false;
                }
            }
            if (alive != now.maps.get(w).size()) {
                return false;
            }
        }
        return true;
    }
}
