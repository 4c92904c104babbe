import java.util.ArrayList;
import java.util.Arrays;
import java.util.Collections;
import java.util.Comparator;
import java.util.HashSet;
import java.util.List;
import java.util.Objects;
import java.util.Set;
import java.util.TreeSet;

/**
 * The document, told as plainly as can be and without a thought for speed: objects are Java's
 * own, so references follow by themselves, and every set is found by trying until nothing changes.
 */
final class Model {
    static final int NONE = -1;
    static final int REFUSED = -2;

    static final class Obj {
        final int kind;
        final int tag;
        // null is NIL, an Integer a number, an Obj a reference.
        final Object[] fields;
        Region region;
        int place;

        Obj(int kind, int tag, int fields) {
            this.kind = kind;
            this.tag = tag;
            this.fields = new Object[fields];
        }

        int size() {
            return fields.length + 1;
        }
    }

    static final class Region {
        final int level;
        final List<Integer> row = new ArrayList<>();
        final List<Obj> objects = new ArrayList<>();
        int used;

        Region(int level) {
            this.level = level;
        }
    }

    final Object[] roots = new Object[16];
    final List<Region> regions = new ArrayList<>();
    final TreeSet<Integer> free = new TreeSet<>();
    final List<Obj> queue = new ArrayList<>();
    final List<Obj> watched = new ArrayList<>();
    int collections;
    int gone;
    int moved;
    int lifted;
    int copied;

    Model() {
        for (int page = 0; page < 40; page++) {
            free.add(page);
        }
    }

    int open() {
        if (regions.size() == 8) {
            return NONE;
        }
        regions.add(new Region(regions.size()));
        return regions.size() - 1;
    }

    int close() {
        if (regions.isEmpty()) {
            return NONE;
        }
        Region r = regions.remove(regions.size() - 1);
        free.addAll(r.row);
        for (int i = 0; i < 16; i++) {
            if (roots[i] instanceof Obj o && o.region == r) {
                roots[i] = null;
            }
        }
        queue.removeIf(o -> o.region == r);
        watched.removeIf(o -> o.region == r);
        return r.row.size();
    }

    int collect(int region) {
        needRegion(region);
        collections++;
        Set<Obj> live = live(region);
        clearWeak(region, live);
        List<Obj> fallen = new ArrayList<>();
        for (Obj o : watched) {
            if (o.region.level >= region && !live.contains(o)) {
                fallen.add(o);
            }
        }
        watched.removeAll(fallen);
        queue.addAll(fallen);
        live = live(region);
        for (Obj o : allObjects()) {
            if (o.region.level >= region && live.contains(o) && o.kind == 2
                    && o.fields[0] instanceof Obj key && !live.contains(key)) {
                Arrays.fill(o.fields, null);
            }
        }
        clearWeak(region, live);
        int goneNow = 0;
        for (int level = region; level < regions.size(); level++) {
            goneNow += slide(regions.get(level), live);
        }
        gone += goneNow;
        return goneNow;
    }

    private void clearWeak(int region, Set<Obj> live) {
        for (Obj o : allObjects()) {
            if (o.region.level >= region && live.contains(o) && o.kind == 1) {
                for (int i = 0; i < o.fields.length; i++) {
                    if (o.fields[i] instanceof Obj to && !live.contains(to)) {
                        o.fields[i] = null;
                    }
                }
            }
        }
    }

    private Set<Obj> live(int region) {
        Set<Obj> live = new HashSet<>(queue);
        for (Object value : roots) {
            if (value instanceof Obj o) {
                live.add(o);
            }
        }
        for (Obj o : allObjects()) {
            if (o.region.level < region) {
                live.add(o);
            }
        }
        int before = -1;
        while (before != live.size()) {
            before = live.size();
            for (Obj o : new ArrayList<>(live)) {
                for (int i = 0; i < o.fields.length; i++) {
                    if (o.fields[i] instanceof Obj to && holds(o, i, live)) {
                        live.add(to);
                    }
                }
            }
        }
        return live;
    }

    private static boolean holds(Obj o, int i, Set<Obj> live) {
        if (o.kind == 0) {
            return true;
        }
        boolean keyHolds = !(o.fields[0] instanceof Obj key) || live.contains(key);
        return o.kind == 2 && i > 0 && keyHolds;
    }

    private int slide(Region r, Set<Obj> live) {
        List<Obj> left = new ArrayList<>(r.objects);
        left.removeIf(o -> !live.contains(o));
        left.sort(Comparator.<Obj>comparingInt(o -> r.row.indexOf(o.place / 16)).thenComparingInt(o -> o.place));
        int goneNow = r.objects.size() - left.size();
        int k = -1;
        int used = 16;
        for (Obj o : left) {
            if (used + o.size() > 16) {
                k++;
                used = 0;
            }
            int place = r.row.get(k) * 16 + used;
            used += o.size();
            moved += place == o.place ? 0 : 1;
            o.place = place;
        }
        r.objects.clear();
        r.objects.addAll(left);
        r.used = used;
        while (r.row.size() > k + 1) {
            free.add(r.row.remove(r.row.size() - 1));
        }
        return goneNow;
    }

    private List<Obj> allObjects() {
        List<Obj> all = new ArrayList<>();
        for (Region r : regions) {
            all.addAll(r.objects);
        }
        return all;
    }

    void clear(int root) {
        needRoot(root);
        roots[root] = null;
    }

    void number(int root, int v) {
        needRoot(root);
        roots[root] = v;
    }

    void move(int to, int from) {
        needRoot(to);
        needRoot(from);
        roots[to] = roots[from];
    }

    int make(int root, int region, int kind, int tag, int fields) {
        needRoot(root);
        needRegion(region);
        if (kind < 0 || kind > 2 || tag < 0 || tag > 999 || fields < (kind == 2 ? 1 : 0) || fields > 15) {
            throw new IllegalArgumentException();
        }
        Obj o = new Obj(kind, tag, fields);
        Region r = regions.get(region);
        boolean done = place(o, r);
        if (!done) {
            collect(region);
            done = place(o, r);
        }
        if (!done && region != 0) {
            collect(0);
            done = place(o, r);
        }
        if (!done) {
            return NONE;
        }
        roots[root] = o;
        return o.place;
    }

    private boolean place(Obj o, Region r) {
        if (r.row.isEmpty() || r.used + o.size() > 16) {
            if (free.isEmpty()) {
                return false;
            }
            r.row.add(free.pollFirst());
            r.used = 0;
        }
        o.place = r.row.get(r.row.size() - 1) * 16 + r.used;
        r.used += o.size();
        o.region = r;
        r.objects.add(o);
        return true;
    }

    boolean get(int to, int from, int i) {
        needRoot(to);
        needRoot(from);
        Obj o = needObject(from);
        if (i < 0 || i >= o.fields.length) {
            return false;
        }
        roots[to] = o.fields[i];
        return true;
    }

    int put(int root, int i, int from) {
        needRoot(root);
        needRoot(from);
        Obj o = needObject(root);
        if (i < 0 || i >= o.fields.length) {
            return NONE;
        }
        if (roots[from] instanceof Obj to && to.region.level > o.region.level) {
            return REFUSED;
        }
        o.fields[i] = roots[from];
        return 1;
    }

    private List<Obj> parts(Object value, int region) {
        List<Obj> parts = new ArrayList<>();
        if (value instanceof Obj o && o.region.level > region) {
            parts.add(o);
        }
        for (int k = 0; k < parts.size(); k++) {
            for (Object field : parts.get(k).fields) {
                if (field instanceof Obj o && o.region.level > region && !parts.contains(o)) {
                    parts.add(o);
                }
            }
        }
        return parts;
    }

    private boolean roomFor(List<Obj> parts, Region r) {
        int pages = free.size();
        int left = r.row.isEmpty() ? 0 : 16 - r.used;
        for (Obj o : parts) {
            if (left < o.size()) {
                pages--;
                left = 16;
            }
            left -= o.size();
        }
        return pages >= 0;
    }

    int lift(int root, int region) {
        needRoot(root);
        needRegion(region);
        Region r = regions.get(region);
        List<Obj> parts = parts(roots[root], region);
        if (!roomFor(parts, r)) {
            return NONE;
        }
        for (Obj o : parts) {
            o.region.objects.remove(o);
            place(o, r);
        }
        lifted += parts.size();
        return parts.size();
    }

    int copy(int to, int from, int region) {
        needRoot(to);
        needRoot(from);
        needRegion(region);
        Region r = regions.get(region);
        List<Obj> parts = parts(roots[from], region);
        if (!roomFor(parts, r)) {
            return NONE;
        }
        List<Obj> copies = new ArrayList<>();
        for (Obj o : parts) {
            Obj twin = new Obj(o.kind, o.tag, o.fields.length);
            place(twin, r);
            copies.add(twin);
        }
        for (int k = 0; k < parts.size(); k++) {
            for (int i = 0; i < parts.get(k).fields.length; i++) {
                Object value = parts.get(k).fields[i];
                int part = value instanceof Obj o ? parts.indexOf(o) : -1;
                copies.get(k).fields[i] = part >= 0 ? copies.get(part) : value;
            }
        }
        roots[to] = parts.isEmpty() ? roots[from] : copies.get(0);
        copied += parts.size();
        return parts.size();
    }

    boolean watch(int root) {
        needRoot(root);
        Obj o = needObject(root);
        if (watched.contains(o)) {
            return false;
        }
        return watched.add(o);
    }

    int due(int root) {
        needRoot(root);
        int waiting = queue.size();
        if (waiting > 0) {
            roots[root] = queue.remove(0);
        }
        return waiting;
    }

    boolean alike(int a, int b) {
        needRoot(a);
        needRoot(b);
        List<Obj> all = new ArrayList<>(parts(roots[a], -1));
        for (Obj o : parts(roots[b], -1)) {
            if (!all.contains(o)) {
                all.add(o);
            }
        }
        boolean[][] related = new boolean[all.size()][all.size()];
        for (boolean[] line : related) {
            Arrays.fill(line, true);
        }
        boolean changed = true;
        while (changed) {
            changed = false;
            for (int x = 0; x < all.size(); x++) {
                for (int y = 0; y < all.size(); y++) {
                    if (related[x][y] && !stillRelated(all.get(x), all.get(y), all, related)) {
                        related[x][y] = false;
                        changed = true;
                    }
                }
            }
        }
        return valuesRelated(roots[a], roots[b], all, related);
    }

    private static boolean stillRelated(Obj x, Obj y, List<Obj> all, boolean[][] related) {
        if (x.kind != y.kind || x.tag != y.tag || x.fields.length != y.fields.length) {
            return false;
        }
        for (int i = 0; i < x.fields.length; i++) {
            if (!valuesRelated(x.fields[i], y.fields[i], all, related)) {
                return false;
            }
        }
        return true;
    }

    private static boolean valuesRelated(Object v, Object w, List<Obj> all, boolean[][] related) {
        if (v instanceof Obj x && w instanceof Obj y) {
            return related[all.indexOf(x)][all.indexOf(y)];
        }
        return !(v instanceof Obj) && !(w instanceof Obj) && Objects.equals(v, w);
    }

    int root(int root, int what) {
        needRoot(root);
        Object value = roots[root];
        if (what == 0 || what == 1) {
            return sortOrContent(value, what);
        }
        if (!(value instanceof Obj o)) {
            return NONE;
        }
        return switch (what) {
            case 2 -> o.kind;
            case 3 -> o.tag;
            case 4 -> o.fields.length;
            case 5 -> o.region.level;
            case 6 -> watched.contains(o) ? 1 : 0;
            default -> NONE;
        };
    }

    int field(int root, int i, int what) {
        needRoot(root);
        if (!(roots[root] instanceof Obj o) || i < 0 || i >= o.fields.length) {
            return NONE;
        }
        Object value = o.fields[i];
        if (what == 0 || what == 1) {
            return sortOrContent(value, what);
        }
        return what == 2 && value instanceof Obj to ? to.tag : NONE;
    }

    private static int sortOrContent(Object value, int what) {
        if (value instanceof Obj o) {
            return what == 0 ? 2 : o.place;
        }
        if (value instanceof Integer n) {
            return what == 0 ? 1 : n;
        }
        return 0;
    }

    int region(int r, int what) {
        if (r < 0 || r >= regions.size()) {
            return NONE;
        }
        Region region = regions.get(r);
        int taken = 0;
        for (Obj o : region.objects) {
            taken += o.size();
        }
        return switch (what) {
            case 0 -> region.row.size();
            case 1 -> region.objects.size();
            case 2 -> taken;
            case 3 -> region.row.size() * 16 - taken;
            default -> NONE;
        };
    }

    int page(int r, int k) {
        if (r < 0 || r >= regions.size() || k < 0 || k >= regions.get(r).row.size()) {
            return NONE;
        }
        return regions.get(r).row.get(k);
    }

    int at(int place) {
        for (Region r : regions) {
            for (Obj o : r.objects) {
                if (o.place == place) {
                    return o.tag;
                }
            }
        }
        return NONE;
    }

    int count(int what) {
        return switch (what) {
            case 0 -> regions.size();
            case 1 -> free.size();
            case 2 -> allObjects().size();
            case 3 -> collections;
            case 4 -> gone;
            case 5 -> moved;
            case 6 -> lifted;
            case 7 -> copied;
            case 8 -> watched.size();
            case 9 -> queue.size();
            default -> NONE;
        };
    }

    private void needRoot(int root) {
        if (root < 0 || root > 15) {
            throw new IndexOutOfBoundsException();
        }
    }

    private void needRegion(int region) {
        if (region < 0 || region >= regions.size()) {
            throw new IllegalArgumentException();
        }
    }

    private Obj needObject(int root) {
        if (!(roots[root] instanceof Obj o)) {
            throw new IllegalStateException();
        }
        return o;
    }

    /** Tags by place, so that all places can be compared at once. */
    int[] tagsByPlace() {
        int[] tags = new int[640];
        Arrays.fill(tags, NONE);
        for (Obj o : allObjects()) {
            tags[o.place] = o.tag;
        }
        return tags;
    }

    List<Obj> waiting() {
        return Collections.unmodifiableList(queue);
    }
}
