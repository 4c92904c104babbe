import java.util.Arrays;

/** Memory in regions on a stack; ../shared/DOC.md tells what each call promises. */
public final class RegionPool {
    public static final int NONE = -1;
    public static final int REFUSED = -2;

    private static final int PAGES = 40;
    private static final int PAGE_PLACES = 16;
    private static final int PLACES = PAGES * PAGE_PLACES;
    private static final int MOST_REGIONS = 8;
    private static final int ROOTS = 16;
    private static final int MOST_FIELDS = PAGE_PLACES - 1;
    private static final int MOST_TAG = 999;

    private static final int PLAIN = 0;
    private static final int WEAK = 1;
    private static final int KEYED = 2;

    private static final int NIL = 0;
    private static final int NUMBER = 1;
    private static final int REFERENCE = 2;
    // A place that is no value is an object's first one, or no object's.
    private static final int HEAD = 3;
    private static final int EMPTY = 4;

    // A head is one int, so that two heads are the same if the ints are.
    private static final int FIELD_BITS = 4;
    private static final int TAG_BITS = 10;

    private final Memory memory;
    private final Collector collector;
    private final Parts parts;
    private final Likeness likeness;
    private int liftedParts;
    private int copiedParts;

    public RegionPool() {
        memory = new Memory();
        collector = new Collector(memory);
        parts = new Parts(memory);
        likeness = new Likeness(memory.heap);
    }

    // ---- regions

    public int open() {
        return memory.regions.begin();
    }

    public int close() {
        int newest = memory.regions.amount() - 1;
        if (newest < 0) {
            return NONE;
        }
        memory.forgetRegion(newest);
        return memory.regions.endNewest();
    }

    public int collect(int region) throws IllegalArgumentException {
        checkRegion(region);
        return collector.run(region);
    }

    // ---- roots

    public void clear(int root) throws IndexOutOfBoundsException {
        checkRoot(root);
        memory.roots.setNil(root);
    }

    public void number(int root, int v) throws IndexOutOfBoundsException {
        checkRoot(root);
        memory.roots.setNumber(root, v);
    }

    public void move(int to, int from) throws IndexOutOfBoundsException {
        checkRoot(to);
        checkRoot(from);
        memory.roots.take(to, memory.roots, from);
    }

    public int make(int root, int region, int kind, int tag, int fields)
            throws IndexOutOfBoundsException, IllegalArgumentException {
        checkRoot(root);
        checkRegion(region);
        checkShape(kind, tag, fields);
        int place = placesAfterCollecting(region, fields + 1);
        if (place == NONE) {
            return NONE;
        }
        memory.heap.found(place, kind, tag, fields);
        memory.roots.setReference(root, place);
        return place;
    }

    public boolean get(int to, int from, int i)
            throws IndexOutOfBoundsException, IllegalStateException {
        checkRoot(to);
        checkRoot(from);
        checkReference(from);
        int object = memory.roots.contentOf(from);
        if (!memory.heap.hasField(object, i)) {
            return false;
        }
        memory.roots.take(to, memory.heap.cells, object + 1 + i);
        return true;
    }

    public int put(int root, int i, int from)
            throws IndexOutOfBoundsException, IllegalStateException {
        checkRoot(root);
        checkRoot(from);
        checkReference(root);
        int object = memory.roots.contentOf(root);
        if (!memory.heap.hasField(object, i)) {
            return NONE;
        }
        if (memory.refersBeyond(memory.roots, from, memory.regions.ofPlace(object))) {
            return REFUSED;
        }
        memory.heap.cells.take(object + 1 + i, memory.roots, from);
        return 1;
    }

    public int lift(int root, int region)
            throws IndexOutOfBoundsException, IllegalArgumentException {
        checkRoot(root);
        checkRegion(region);
        parts.find(root, region);
        if (!parts.fitInto(region)) {
            return NONE;
        }
        parts.transfer(region);
        liftedParts += parts.amount();
        return parts.amount();
    }

    public int copy(int to, int from, int region)
            throws IndexOutOfBoundsException, IllegalArgumentException {
        checkRoot(to);
        checkRoot(from);
        checkRegion(region);
        parts.find(from, region);
        if (!parts.fitInto(region)) {
            return NONE;
        }
        parts.duplicate(region);
        memory.roots.take(to, memory.roots, from);
        memory.followMove(memory.roots, to);
        copiedParts += parts.amount();
        return parts.amount();
    }

    public boolean watch(int root)
            throws IndexOutOfBoundsException, IllegalStateException {
        checkRoot(root);
        checkReference(root);
        int object = memory.roots.contentOf(root);
        if (memory.watched.has(object)) {
            return false;
        }
        memory.watched.append(object);
        return true;
    }

    public int due(int root) throws IndexOutOfBoundsException {
        checkRoot(root);
        int waiting = memory.queue.length();
        if (waiting > 0) {
            memory.roots.setReference(root, memory.queue.itemAt(0));
            memory.queue.dropFirst();
        }
        return waiting;
    }

    // ---- what is seen

    public boolean alike(int a, int b) throws IndexOutOfBoundsException {
        checkRoot(a);
        checkRoot(b);
        return likeness.ofRoots(memory.roots, a, b);
    }

    public int root(int root, int what) throws IndexOutOfBoundsException {
        checkRoot(root);
        if (what == 0) {
            return memory.roots.sortOf(root);
        }
        if (what == 1) {
            return memory.roots.contentOf(root);
        }
        if (!memory.roots.isReference(root)) {
            return NONE;
        }
        return ofObject(memory.roots.contentOf(root), what);
    }

    public int field(int root, int i, int what) throws IndexOutOfBoundsException {
        checkRoot(root);
        if (!memory.roots.isReference(root)) {
            return NONE;
        }
        int object = memory.roots.contentOf(root);
        if (!memory.heap.hasField(object, i)) {
            return NONE;
        }
        return ofField(object + 1 + i, what);
    }

    public int region(int r, int what) {
        if (!memory.regions.has(r)) {
            return NONE;
        }
        int pages = memory.regions.rowLength(r);
        switch (what) {
            case 0:
                return pages;
            case 1:
                return memory.objectsIn(r);
            case 2:
                return memory.placesTakenIn(r);
            case 3:
                return pages * PAGE_PLACES - memory.placesTakenIn(r);
            default:
                return NONE;
        }
    }

    public int page(int r, int k) {
        if (!memory.regions.has(r) || k < 0 || k >= memory.regions.rowLength(r)) {
            return NONE;
        }
        return memory.regions.pageInRow(r, k);
    }

    public int at(int place) {
        if (place < 0 || place >= PLACES || !memory.heap.isObject(place)) {
            return NONE;
        }
        return memory.heap.tagOf(place);
    }

    public int count(int what) {
        switch (what) {
            case 0:
                return memory.regions.amount();
            case 1:
                return memory.regions.freePages();
            case 2:
                return memory.objects();
            case 3:
                return collector.collections();
            case 4:
                return collector.goneInAll();
            case 5:
                return collector.movedInAll();
            case 6:
                return liftedParts;
            case 7:
                return copiedParts;
            case 8:
                return memory.watched.length();
            case 9:
                return memory.queue.length();
            default:
                return NONE;
        }
    }

    // ---- what the calls share

    private void checkRoot(int root) {
        if (root < 0 || root >= ROOTS) {
            throw new IndexOutOfBoundsException("no such root");
        }
    }

    private void checkReference(int root) {
        if (!memory.roots.isReference(root)) {
            throw new IllegalStateException("the root is no reference");
        }
    }

    private void checkRegion(int region) {
        if (!memory.regions.has(region)) {
            throw new IllegalArgumentException("no such region");
        }
    }

    private void checkShape(int kind, int tag, int fields) {
        if (kind < PLAIN || kind > KEYED) {
            throw new IllegalArgumentException("no such kind");
        }
        if (tag < 0 || tag > MOST_TAG) {
            throw new IllegalArgumentException("the tag is not 0 .. 999");
        }
        int fewest = kind == KEYED ? 1 : 0;
        if (fields < fewest || fields > MOST_FIELDS) {
            throw new IllegalArgumentException("so many fields can't be");
        }
    }

    private int placesAfterCollecting(int region, int size) {
        int place = memory.regions.takePlaces(region, size);
        if (place == NONE) {
            collector.run(region);
            place = memory.regions.takePlaces(region, size);
        }
        if (place == NONE && region != 0) {
            collector.run(0);
            place = memory.regions.takePlaces(region, size);
        }
        return place;
    }

    private int ofObject(int object, int what) {
        switch (what) {
            case 2:
                return memory.heap.kindOf(object);
            case 3:
                return memory.heap.tagOf(object);
            case 4:
                return memory.heap.fieldsOf(object);
            case 5:
                return memory.regions.ofPlace(object);
            case 6:
                return memory.watched.has(object) ? 1 : 0;
            default:
                return NONE;
        }
    }

    private int ofField(int cell, int what) {
        Values cells = memory.heap.cells;
        switch (what) {
            case 0:
                return cells.sortOf(cell);
            case 1:
                return cells.contentOf(cell);
            case 2:
                return cells.isReference(cell) ? memory.heap.tagOf(cells.contentOf(cell)) : NONE;
            default:
                return NONE;
        }
    }

    /** A row of values: of each the sort, and its number, or the place of its object (NIL: 0). */
    private static final class Values {
        private final int[] sorts;
        private final int[] contents;

        Values(int[] sorts, int[] contents) {
            this.sorts = sorts;
            this.contents = contents;
        }

        int sortOf(int i) {
            return sorts[i];
        }

        int contentOf(int i) {
            return contents[i];
        }

        boolean isReference(int i) {
            return sorts[i] == REFERENCE;
        }

        void assign(int i, int sort, int content) {
            sorts[i] = sort;
            contents[i] = content;
        }

        void setNil(int i) {
            assign(i, NIL, 0);
        }

        void setNumber(int i, int v) {
            assign(i, NUMBER, v);
        }

        void setReference(int i, int place) {
            assign(i, REFERENCE, place);
        }

        void take(int i, Values from, int k) {
            assign(i, from.sorts[k], from.contents[k]);
        }

        void follow(int[] newPlaces) {
            for (int i = 0; i < sorts.length; i++) {
                if (sorts[i] == REFERENCE) {
                    contents[i] = newPlaces[contents[i]];
                }
            }
        }
    }

    /** What stands at the pool's places: of each object its head, then its fields. */
    private static final class Heap {
        final Values cells;

        Heap() {
            int[] sorts = new int[PLACES];
            Arrays.fill(sorts, EMPTY);
            cells = new Values(sorts, new int[PLACES]);
        }

        boolean isObject(int place) {
            return cells.sortOf(place) == HEAD;
        }

        int headOf(int object) {
            return cells.contents[object];
        }

        int kindOf(int object) {
            return cells.contents[object] >> (TAG_BITS + FIELD_BITS);
        }

        int tagOf(int object) {
            return (cells.contents[object] >> FIELD_BITS) & ((1 << TAG_BITS) - 1);
        }

        int fieldsOf(int object) {
            return cells.contents[object] & ((1 << FIELD_BITS) - 1);
        }

        int sizeOf(int object) {
            return fieldsOf(object) + 1;
        }

        boolean hasField(int object, int i) {
            return i >= 0 && i < fieldsOf(object);
        }

        void found(int place, int kind, int tag, int fields) {
            int head = (((kind << TAG_BITS) | tag) << FIELD_BITS) | fields;
            cells.assign(place, HEAD, head);
            clearFields(place);
        }

        void clearFields(int object) {
            int fields = fieldsOf(object);
            for (int i = 0; i < fields; i++) {
                cells.setNil(object + 1 + i);
            }
        }

        void erase(int object) {
            int size = sizeOf(object);
            for (int i = 0; i < size; i++) {
                cells.assign(object + i, EMPTY, 0);
            }
        }

        void duplicate(int object, int place) {
            int size = sizeOf(object);
            for (int i = 0; i < size; i++) {
                cells.take(place + i, cells, object + i);
            }
        }

        // An object may slide onto places of its own, so each cell is emptied
        // before the new one is written, from the first one on.
        void carry(int object, int place) {
            int size = sizeOf(object);
            for (int i = 0; i < size; i++) {
                int sort = cells.sortOf(object + i);
                int content = cells.contentOf(object + i);
                cells.assign(object + i, EMPTY, 0);
                cells.assign(place + i, sort, content);
            }
        }

        int objectsOnPage(int page) {
            int first = page * PAGE_PLACES;
            int objects = 0;
            for (int i = 0; i < PAGE_PLACES; i++) {
                objects += isObject(first + i) ? 1 : 0;
            }
            return objects;
        }

        int placesTakenOnPage(int page) {
            int first = page * PAGE_PLACES;
            int taken = 0;
            for (int i = 0; i < PAGE_PLACES; i++) {
                taken += cells.sortOf(first + i) == EMPTY ? 0 : 1;
            }
            return taken;
        }
    }

    /** The stack of regions, and each one's row of pages. */
    private static final class Regions {
        private final int[] owners;
        private final int[][] rows;
        private final int[] lengths;
        // How many places of the row's last page are used up. A row without
        // a page counts as one whose last page is full: both need a page next.
        private final int[] fills;
        private int regions;

        Regions() {
            owners = new int[PAGES];
            rows = new int[MOST_REGIONS][PAGES];
            lengths = new int[MOST_REGIONS];
            fills = new int[MOST_REGIONS];
            regions = 0;
            Arrays.fill(owners, NONE);
        }

        int amount() {
            return regions;
        }

        boolean has(int r) {
            return r >= 0 && r < regions;
        }

        int rowLength(int r) {
            return lengths[r];
        }

        int pageInRow(int r, int k) {
            return rows[r][k];
        }

        int ofPlace(int place) {
            return owners[place / PAGE_PLACES];
        }

        int begin() {
            if (regions >= MOST_REGIONS) {
                return NONE;
            }
            int r = regions;
            regions++;
            emptyRow(r);
            return r;
        }

        int endNewest() {
            regions--;
            int pages = lengths[regions];
            freePagesBehind(regions, 0, pages);
            return pages;
        }

        int freePages() {
            int free = 0;
            for (int page = 0; page < PAGES; page++) {
                free += owners[page] == NONE ? 1 : 0;
            }
            return free;
        }

        int takePlaces(int r, int size) {
            if (fills[r] + size > PAGE_PLACES && !addPage(r)) {
                return NONE;
            }
            return nextPlaces(r, size);
        }

        int fillOf(int r) {
            return fills[r];
        }

        // The row's pages stay where they are while it is filled anew from its
        // beginning: those behind its length are the ones to slide into next.
        int startSlide(int r) {
            int pages = lengths[r];
            emptyRow(r);
            return pages;
        }

        int slidePlaces(int r, int size) {
            if (fills[r] + size > PAGE_PLACES) {
                lengths[r]++;
                fills[r] = 0;
            }
            return nextPlaces(r, size);
        }

        void endSlide(int r, int pages) {
            freePagesBehind(r, lengths[r], pages);
        }

        private int nextPlaces(int r, int size) {
            int place = rows[r][lengths[r] - 1] * PAGE_PLACES + fills[r];
            fills[r] += size;
            return place;
        }

        private void emptyRow(int r) {
            lengths[r] = 0;
            fills[r] = PAGE_PLACES;
        }

        private boolean addPage(int r) {
            int page = leastFreePage();
            if (page == NONE) {
                return false;
            }
            owners[page] = r;
            rows[r][lengths[r]] = page;
            lengths[r]++;
            fills[r] = 0;
            return true;
        }

        private int leastFreePage() {
            for (int page = 0; page < PAGES; page++) {
                if (owners[page] == NONE) {
                    return page;
                }
            }
            return NONE;
        }

        private void freePagesBehind(int r, int kept, int pages) {
            for (int k = kept; k < pages; k++) {
                owners[rows[r][k]] = NONE;
            }
        }
    }

    /** Objects one behind the other, each at most once: so there are never more than places. */
    private static final class Line {
        private final int[] items;
        private int length;

        Line() {
            items = new int[PLACES];
            length = 0;
        }

        int length() {
            return length;
        }

        int itemAt(int k) {
            return items[k];
        }

        boolean has(int object) {
            for (int k = 0; k < length; k++) {
                if (items[k] == object) {
                    return true;
                }
            }
            return false;
        }

        void append(int object) {
            if (length < items.length) {
                items[length] = object;
                length++;
            }
        }

        void dropFirst() {
            for (int k = 1; k < length; k++) {
                items[k - 1] = items[k];
            }
            length--;
        }

        void dropRegion(Regions regions, int r) {
            int kept = 0;
            for (int k = 0; k < length; k++) {
                if (regions.ofPlace(items[k]) != r) {
                    items[kept] = items[k];
                    kept++;
                }
            }
            length = kept;
        }

        void handOverDead(Marker marker, Line to) {
            int kept = 0;
            for (int k = 0; k < length; k++) {
                if (marker.isLive(items[k])) {
                    items[kept] = items[k];
                    kept++;
                } else {
                    to.append(items[k]);
                }
            }
            length = kept;
        }

        void follow(int[] newPlaces) {
            for (int k = 0; k < length; k++) {
                items[k] = newPlaces[items[k]];
            }
        }
    }

    /** All that refers to objects, and the places to which these have come. */
    private static final class Memory {
        final Values roots;
        final Heap heap;
        final Regions regions;
        final Line queue;
        final Line watched;
        private final int[] newPlaces;

        Memory() {
            roots = new Values(new int[ROOTS], new int[ROOTS]);
            heap = new Heap();
            regions = new Regions();
            queue = new Line();
            watched = new Line();
            newPlaces = new int[PLACES];
        }

        boolean refersBeyond(Values row, int i, int region) {
            return row.isReference(i) && regions.ofPlace(row.contentOf(i)) > region;
        }

        int objects() {
            int objects = 0;
            for (int page = 0; page < PAGES; page++) {
                objects += heap.objectsOnPage(page);
            }
            return objects;
        }

        int objectsIn(int r) {
            int objects = 0;
            for (int k = 0; k < regions.rowLength(r); k++) {
                objects += heap.objectsOnPage(regions.pageInRow(r, k));
            }
            return objects;
        }

        int placesTakenIn(int r) {
            int taken = 0;
            for (int k = 0; k < regions.rowLength(r); k++) {
                taken += heap.placesTakenOnPage(regions.pageInRow(r, k));
            }
            return taken;
        }

        // Only for the newest region: no field of another one refers into it.
        void forgetRegion(int r) {
            for (int i = 0; i < ROOTS; i++) {
                if (refersBeyond(roots, i, r - 1)) {
                    roots.setNil(i);
                }
            }
            queue.dropRegion(regions, r);
            watched.dropRegion(regions, r);
            for (int place = 0; place < PLACES; place++) {
                if (heap.isObject(place) && regions.ofPlace(place) == r) {
                    heap.erase(place);
                }
            }
        }

        void startMoves() {
            for (int place = 0; place < PLACES; place++) {
                newPlaces[place] = place;
            }
        }

        void noteMove(int from, int to) {
            newPlaces[from] = to;
        }

        int newPlaceOf(int object) {
            return newPlaces[object];
        }

        void followMove(Values row, int i) {
            if (row.isReference(i)) {
                row.setReference(i, newPlaces[row.contentOf(i)]);
            }
        }

        void followAllMoves() {
            roots.follow(newPlaces);
            heap.cells.follow(newPlaces);
            queue.follow(newPlaces);
            watched.follow(newPlaces);
        }
    }

    /** Finds which objects are live. */
    private static final class Marker {
        private final Memory memory;
        private final boolean[] live;
        // Live objects whose fields have not been looked at.
        private final int[] pending;
        private int pendings;

        Marker(Memory memory) {
            this.memory = memory;
            live = new boolean[PLACES];
            pending = new int[PLACES];
            pendings = 0;
        }

        boolean isLive(int object) {
            return live[object];
        }

        boolean refersToDead(int cell) {
            Values cells = memory.heap.cells;
            return cells.isReference(cell) && !live[cells.contentOf(cell)];
        }

        // Objects that are not young are live without a look at their fields:
        // they refer to no young ones.
        void start(int young) {
            for (int place = 0; place < PLACES; place++) {
                live[place] = memory.heap.isObject(place) && memory.regions.ofPlace(place) < young;
            }
            pendings = 0;
        }

        void reachRoots() {
            for (int i = 0; i < ROOTS; i++) {
                if (memory.roots.isReference(i)) {
                    reach(memory.roots.contentOf(i));
                }
            }
        }

        void reachQueue() {
            for (int k = 0; k < memory.queue.length(); k++) {
                reach(memory.queue.itemAt(k));
            }
        }

        // Each round but the last one makes an object live, so there are no more than places.
        void spread() {
            followPending();
            for (int round = 0; round < PLACES && reachByKeys(); round++) {
                followPending();
            }
        }

        private void reach(int object) {
            if (!live[object]) {
                live[object] = true;
                pending[pendings] = object;
                pendings++;
            }
        }

        private void reachFields(int object, int first) {
            Values cells = memory.heap.cells;
            int fields = memory.heap.fieldsOf(object);
            for (int i = first; i < fields; i++) {
                if (cells.isReference(object + 1 + i)) {
                    reach(cells.contentOf(object + 1 + i));
                }
            }
        }

        private void followPending() {
            for (int step = 0; step < PLACES && pendings > 0; step++) {
                pendings--;
                int object = pending[pendings];
                if (memory.heap.kindOf(object) == PLAIN) {
                    reachFields(object, 0);
                }
            }
        }

        private boolean reachByKeys() {
            for (int place = 0; place < PLACES; place++) {
                if (live[place] && memory.heap.kindOf(place) == KEYED && !refersToDead(place + 1)) {
                    reachFields(place, 1);
                }
            }
            return pendings > 0;
        }
    }

    /** Collects from a region on. */
    private static final class Collector {
        private final Memory memory;
        private final Marker marker;
        private int collections;
        private int gone;
        private int moved;

        Collector(Memory memory) {
            this.memory = memory;
            marker = new Marker(memory);
            collections = 0;
            gone = 0;
            moved = 0;
        }

        int collections() {
            return collections;
        }

        int goneInAll() {
            return gone;
        }

        int movedInAll() {
            return moved;
        }

        int run(int young) {
            int goneBefore = gone;
            marker.start(young);
            marker.reachRoots();
            marker.reachQueue();
            marker.spread();
            clearWeakFields();
            // All are handed over before one is made live: one that another
            // watched one holds comes to the queue, too.
            memory.watched.handOverDead(marker, memory.queue);
            marker.reachQueue();
            marker.spread();
            clearKeyedFields();
            clearWeakFields();
            memory.startMoves();
            for (int r = young; r < memory.regions.amount(); r++) {
                slideRegion(r);
            }
            memory.followAllMoves();
            collections++;
            return gone - goneBefore;
        }

        private boolean isLiveOf(int place, int kind) {
            return marker.isLive(place) && memory.heap.kindOf(place) == kind;
        }

        // Here and for keyed ones no look at whether they are young is needed:
        // the others refer to live objects alone.
        private void clearWeakFields() {
            for (int place = 0; place < PLACES; place++) {
                if (isLiveOf(place, WEAK)) {
                    clearDeadFields(place);
                }
            }
        }

        private void clearDeadFields(int object) {
            int fields = memory.heap.fieldsOf(object);
            for (int i = 0; i < fields; i++) {
                if (marker.refersToDead(object + 1 + i)) {
                    memory.heap.cells.setNil(object + 1 + i);
                }
            }
        }

        private void clearKeyedFields() {
            for (int place = 0; place < PLACES; place++) {
                if (isLiveOf(place, KEYED) && marker.refersToDead(place + 1)) {
                    memory.heap.clearFields(place);
                }
            }
        }

        // No object comes behind where it was, so the heads that are still
        // ahead have not been touched.
        private void slideRegion(int r) {
            int pages = memory.regions.startSlide(r);
            for (int k = 0; k < pages; k++) {
                int first = memory.regions.pageInRow(r, k) * PAGE_PLACES;
                for (int i = 0; i < PAGE_PLACES; i++) {
                    if (memory.heap.isObject(first + i)) {
                        slideOrErase(r, first + i);
                    }
                }
            }
            memory.regions.endSlide(r, pages);
        }

        private void slideOrErase(int r, int object) {
            if (!marker.isLive(object)) {
                memory.heap.erase(object);
                gone++;
                return;
            }
            int place = memory.regions.slidePlaces(r, memory.heap.sizeOf(object));
            if (place != object) {
                memory.heap.carry(object, place);
                memory.noteMove(object, place);
                moved++;
            }
        }
    }

    /** The parts of a value, to be lifted or copied. */
    private static final class Parts {
        private final Memory memory;
        private final int[] items;
        private final boolean[] isPart;
        private int length;

        Parts(Memory memory) {
            this.memory = memory;
            items = new int[PLACES];
            isPart = new boolean[PLACES];
            length = 0;
        }

        int amount() {
            return length;
        }

        void find(int root, int region) {
            for (int k = 0; k < length; k++) {
                isPart[items[k]] = false;
            }
            length = 0;
            addIfPart(memory.roots, root, region);
            for (int k = 0; k < length && k < PLACES; k++) {
                addFieldsOf(items[k], region);
            }
        }

        boolean fitInto(int region) {
            int fill = memory.regions.fillOf(region);
            int pagesLeft = memory.regions.freePages();
            for (int k = 0; k < length; k++) {
                int size = memory.heap.sizeOf(items[k]);
                if (fill + size > PAGE_PLACES) {
                    pagesLeft--;
                    fill = 0;
                }
                fill += size;
            }
            return pagesLeft >= 0;
        }

        void transfer(int region) {
            placeAll(region);
            for (int k = 0; k < length; k++) {
                memory.heap.carry(items[k], memory.newPlaceOf(items[k]));
            }
            memory.followAllMoves();
        }

        void duplicate(int region) {
            placeAll(region);
            for (int k = 0; k < length; k++) {
                int twin = memory.newPlaceOf(items[k]);
                memory.heap.duplicate(items[k], twin);
                followFieldsOf(twin);
            }
        }

        private void placeAll(int region) {
            memory.startMoves();
            for (int k = 0; k < length; k++) {
                int place = memory.regions.takePlaces(region, memory.heap.sizeOf(items[k]));
                if (place != NONE) {
                    memory.noteMove(items[k], place);
                }
            }
        }

        private void addIfPart(Values row, int i, int region) {
            if (memory.refersBeyond(row, i, region) && !isPart[row.contentOf(i)]) {
                items[length] = row.contentOf(i);
                isPart[items[length]] = true;
                length++;
            }
        }

        private void addFieldsOf(int object, int region) {
            int fields = memory.heap.fieldsOf(object);
            for (int i = 0; i < fields; i++) {
                addIfPart(memory.heap.cells, object + 1 + i, region);
            }
        }

        private void followFieldsOf(int object) {
            int fields = memory.heap.fieldsOf(object);
            for (int i = 0; i < fields; i++) {
                memory.followMove(memory.heap.cells, object + 1 + i);
            }
        }
    }

    /** Tells whether two values are alike: takes pairs for alike until one is seen not to be. */
    private static final class Likeness {
        private final Heap heap;
        // Objects that are taken for alike have the same last leader.
        private final int[] leaders;
        private final int[] lefts;
        private final int[] rights;
        private int pairs;

        Likeness(Heap heap) {
            this.heap = heap;
            leaders = new int[PLACES];
            lefts = new int[PLACES];
            rights = new int[PLACES];
            pairs = 0;
        }

        boolean ofRoots(Values roots, int a, int b) {
            for (int place = 0; place < PLACES; place++) {
                leaders[place] = place;
            }
            pairs = 0;
            boolean soFar = mayBeAlike(roots, a, b);
            for (int k = 0; soFar && k < pairs && k < PLACES; k++) {
                soFar = fieldsMayBeAlike(lefts[k], rights[k]);
            }
            return soFar;
        }

        private boolean fieldsMayBeAlike(int left, int right) {
            int fields = heap.fieldsOf(left);
            for (int i = 0; i < fields; i++) {
                if (!mayBeAlike(heap.cells, left + 1 + i, right + 1 + i)) {
                    return false;
                }
            }
            return true;
        }

        private boolean mayBeAlike(Values row, int a, int b) {
            if (row.sortOf(a) != row.sortOf(b)) {
                return false;
            }
            if (row.isReference(a)) {
                return takeForAlike(row.contentOf(a), row.contentOf(b));
            }
            return row.contentOf(a) == row.contentOf(b);
        }

        // Each pair that is kept leaves one leader fewer, so there are fewer pairs than places.
        private boolean takeForAlike(int left, int right) {
            int leftLeader = lastLeader(left);
            int rightLeader = lastLeader(right);
            if (leftLeader == rightLeader) {
                return true;
            }
            if (heap.headOf(left) != heap.headOf(right)) {
                return false;
            }
            leaders[leftLeader] = rightLeader;
            lefts[pairs] = left;
            rights[pairs] = right;
            pairs++;
            return true;
        }

        private int lastLeader(int object) {
            int leader = object;
            for (int step = 0; step < PLACES && leaders[leader] != leader; step++) {
                leaders[leader] = leaders[leaders[leader]];
                leader = leaders[leader];
            }
            return leader;
        }
    }
}
