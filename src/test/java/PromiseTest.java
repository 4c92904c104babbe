/** Each promise of the document by itself: ordinary inputs, the edges that it names, and wrong inputs. */
public final class PromiseTest extends Checks {
    public static void main(String[] args) {
        newObject();
        open();
        close();
        closeForgets();
        collectSlides();
        collectFromARegionOn();
        collectWeak();
        collectKeyed();
        collectKeyedByWay();
        collectQueueHolds();
        collectWatched();
        collectOrderOfSteps();
        clearNumberMove();
        make();
        makeWrong();
        makeCollects();
        makeCollectsTwice();
        get();
        put();
        lift();
        liftOrder();
        liftWithoutRoom();
        liftIntoFullPages();
        copy();
        copyWithoutRoom();
        watch();
        due();
        alike();
        alikeRings();
        root();
        field();
        region();
        page();
        at();
        count();
        finish();
    }

    private static void newObject() {
        of("1 a new object");
        RegionPool x = new RegionPool();
        int[] counts = {0, 40, 0, 0, 0, 0, 0, 0, 0, 0};
        for (int what = 0; what < counts.length; what++) {
            is("count(" + what + ")", x.count(what), counts[what]);
        }
        for (int root = 0; root < 16; root++) {
            is("root(" + root + ", 0)", x.root(root, 0), 0);
        }
        is("region(0, 0)", x.region(0, 0), NONE);
        is("at(0)", x.at(0), NONE);
        is("NONE", NONE, -1);
        is("REFUSED", REFUSED, -2);
    }

    private static void open() {
        of("2 open");
        RegionPool x = new RegionPool();
        for (int r = 0; r < 8; r++) {
            is("open()", x.open(), r);
            is("region(r, 0)", x.region(r, 0), 0);
        }
        is("the ninth open()", x.open(), NONE);
        is("count(0)", x.count(0), 8);
        x.close();
        is("open() behind close()", x.open(), 7);
    }

    private static void close() {
        of("3 close");
        RegionPool x = withRegions(2);
        x.make(0, 1, PLAIN, 1, 15);
        x.make(1, 1, PLAIN, 2, 0);
        x.make(2, 0, PLAIN, 3, 0);
        is("close()", x.close(), 2);
        is("count(1)", x.count(1), 39);
        is("count(2)", x.count(2), 1);
        is("count(4)", x.count(4), 0);
        is("count(3)", x.count(3), 0);
        is("at(0)", x.at(0), NONE);
        is("root(0, 0)", x.root(0, 0), 0);
        is("root(1, 0)", x.root(1, 0), 0);
        is("root(2, 3)", x.root(2, 3), 3);
        is("open() again", x.open(), 1);
        is("its pages", x.region(1, 0), 0);
        is("make in it: the least free page", x.make(0, 1, PLAIN, 4, 0), 0);
        x.close();
        is("the last close()", x.close(), 1);
        is("close() without a region", x.close(), NONE);
        is("close() without a region", x.close(), NONE);
        is("count(0)", x.count(0), 0);
        is("count(1)", x.count(1), 40);
    }

    private static void closeForgets() {
        of("3 close");
        RegionPool x = withRegions(2);
        x.make(0, 1, PLAIN, 1, 0);
        x.make(1, 0, PLAIN, 2, 0);
        x.make(2, 1, PLAIN, 3, 0);
        x.make(3, 0, PLAIN, 4, 0);
        x.number(4, 0);
        for (int root = 0; root < 4; root++) {
            x.watch(root);
        }
        x.clear(0);
        x.clear(1);
        x.collect(0);
        is("the queue", x.count(9), 2);
        is("watched", x.count(8), 2);
        x.close();
        is("the queue without what is gone", x.count(9), 1);
        is("watched without what is gone", x.count(8), 1);
        is("a number is no reference", x.root(4, 0), 1);
        x.due(0);
        is("what is left in the queue", x.root(0, 3), 2);
        is("what is left watched", x.root(3, 6), 1);
    }

    private static void collectSlides() {
        of("4 collect");
        RegionPool x = withRegions(1);
        x.make(0, 0, PLAIN, 1, 9);
        x.make(1, 0, PLAIN, 2, 3);
        x.make(2, 0, PLAIN, 3, 7);
        x.make(3, 0, PLAIN, 4, 7);
        x.make(4, 0, PLAIN, 5, 0);
        x.put(1, 0, 2);
        x.put(2, 0, 2);
        x.number(5, 77);
        x.put(2, 6, 5);
        x.clear(0);
        is("collect(0)", x.collect(0), 1);
        is("the first one slides", x.root(1, 1), 0);
        is("one from the next page slides", x.root(2, 1), 4);
        is("too many places for what is left", x.root(3, 1), 16);
        is("behind it", x.root(4, 1), 24);
        is("references follow", x.field(1, 0, 1), 4);
        is("references to itself follow", x.field(2, 0, 1), 4);
        is("numbers stay", x.field(2, 6, 1), 77);
        is("pages", x.region(0, 0), 2);
        is("moved", x.count(5), 4);
        is("gone", x.count(4), 1);
        is("collections", x.count(3), 1);
        is("again", x.collect(0), 0);
        is("nothing has moved", x.count(5), 4);
        is("collections", x.count(3), 2);
        is("next object", x.make(0, 0, PLAIN, 6, 0), 25);
        for (int root = 0; root < 16; root++) {
            x.clear(root);
        }
        is("all", x.collect(0), 5);
        is("no pages", x.region(0, 0), 0);
        is("page(0, 0)", x.page(0, 0), NONE);
        badArgument("collect(1)", () -> x.collect(1));
        badArgument("collect(-1)", () -> x.collect(-1));
        badArgument("collect(MAX)", () -> x.collect(Integer.MAX_VALUE));
        is("collections", x.count(3), 3);
        badArgument("collect(0) without a region", () -> new RegionPool().collect(0));
    }

    private static void collectFromARegionOn() {
        of("4 collect");
        RegionPool x = withRegions(3);
        x.make(0, 0, PLAIN, 1, 0);
        x.make(0, 1, PLAIN, 2, 1);
        x.make(1, 1, PLAIN, 3, 0);
        x.make(2, 2, PLAIN, 4, 1);
        x.put(2, 0, 1);
        x.clear(1);
        x.make(1, 2, PLAIN, 5, 0);
        x.clear(0);
        x.clear(1);
        is("collect(2)", x.collect(2), 1);
        is("region 0 stays", x.region(0, 1), 1);
        is("region 1 stays", x.region(1, 1), 2);
        is("region 2", x.region(2, 1), 1);
        is("collect(1)", x.collect(1), 1);
        is("held from region 2", x.field(2, 0, 2), 3);
        is("which has moved", x.field(2, 0, 1), 16);
        is("region 0 stays", x.region(0, 1), 1);
        is("collect(0)", x.collect(0), 1);
        is("no page of region 0", x.region(0, 0), 0);
        is("a free page", x.count(1), 38);
    }

    private static void collectWeak() {
        of("4 collect: weak");
        RegionPool x = withRegions(1);
        x.make(0, 0, WEAK, 1, 4);
        x.make(1, 0, PLAIN, 2, 0);
        x.make(2, 0, PLAIN, 3, 0);
        x.number(3, 9);
        x.put(0, 0, 1);
        x.put(0, 1, 2);
        x.put(0, 2, 3);
        x.put(0, 3, 0);
        x.clear(1);
        is("collect(0)", x.collect(0), 1);
        is("what is gone", x.field(0, 0, 0), 0);
        is("what is live", x.field(0, 1, 2), 3);
        is("a number", x.field(0, 2, 1), 9);
        is("itself", x.field(0, 3, 2), 1);
    }

    private static void collectKeyed() {
        of("4 collect: keyed");
        RegionPool x = withRegions(1);
        // Each holds the key of the one before it: one look in order is not enough.
        x.make(0, 0, KEYED, 1, 2);
        x.make(1, 0, KEYED, 2, 3);
        x.make(2, 0, PLAIN, 3, 0);
        x.make(3, 0, PLAIN, 4, 0);
        x.make(4, 0, PLAIN, 5, 0);
        x.put(0, 0, 3);
        x.put(0, 1, 4);
        x.put(1, 0, 2);
        x.put(1, 1, 3);
        x.number(5, 8);
        x.put(1, 2, 5);
        x.clear(3);
        x.clear(4);
        is("all are held", x.collect(0), 0);
        is("by the key that the other one holds", x.field(0, 1, 2), 5);
        x.clear(2);
        is("without the first key", x.collect(0), 3);
        for (int i = 0; i < 3; i++) {
            is("fields become NIL, numbers too", x.field(1, i, 0), 0);
        }
        is("and of the other one", x.field(0, 1, 0), 0);

        RegionPool y = withRegions(1);
        y.make(0, 0, KEYED, 1, 2);
        y.make(1, 0, PLAIN, 2, 0);
        y.put(0, 1, 1);
        y.clear(1);
        is("a key that is NIL holds", y.collect(0), 0);
        y.number(1, 3);
        y.put(0, 0, 1);
        is("a key that is a number holds", y.collect(0), 0);
        is("it is there", y.field(0, 1, 2), 2);
        y.put(0, 0, 0);
        is("a key that is the object itself holds", y.collect(0), 0);
        y.get(1, 0, 1);
        y.put(0, 0, 1);
        y.clear(1);
        is("a key is not held by itself", y.collect(0), 1);
        is("its fields are NIL", y.field(0, 0, 0) + y.field(0, 1, 0), 0);
    }

    private static void collectKeyedByWay() {
        of("4 collect: keyed");
        RegionPool x = withRegions(1);
        x.make(0, 0, KEYED, 1, 2);
        x.make(1, 0, PLAIN, 2, 1);
        x.make(2, 0, PLAIN, 3, 0);
        x.make(3, 0, KEYED, 4, 2);
        x.make(4, 0, PLAIN, 5, 0);
        x.put(0, 0, 3);
        x.put(0, 1, 1);
        x.put(1, 0, 2);
        x.put(3, 0, 2);
        x.put(3, 1, 4);
        x.clear(1);
        x.clear(2);
        x.clear(4);
        is("what is held behind a key holds further, and is a key", x.collect(0), 0);
        is("so that is held, too", x.field(3, 1, 2), 5);
        x.make(5, 0, PLAIN, 6, 0);
        x.put(3, 1, 5);
        x.clear(5);
        x.clear(1);
        x.clear(0);
        is("without the way to its key", x.collect(0), 5);
        is("the key", x.field(3, 0, 0), 0);
        is("and the other field", x.field(3, 1, 0), 0);
    }

    private static void collectQueueHolds() {
        of("4 collect: the queue");
        RegionPool x = withRegions(1);
        x.make(0, 0, PLAIN, 1, 1);
        x.make(1, 0, PLAIN, 2, 0);
        x.make(2, 0, WEAK, 3, 1);
        x.put(0, 0, 1);
        x.watch(0);
        x.watch(1);
        x.clear(0);
        x.clear(1);
        x.collect(0);
        x.due(0);
        x.get(1, 0, 0);
        x.put(2, 0, 1);
        x.clear(0);
        x.clear(1);
        is("one is in the queue, the other one is gone", x.collect(0), 1);
        is("what the queue holds is live from the first step on", x.field(2, 0, 2), 2);
        x.due(1);
        x.clear(1);
        is("not any more", x.collect(0), 1);
        is("a weak one", x.field(2, 0, 0), 0);
    }

    private static void collectWatched() {
        of("4 collect: watched");
        RegionPool x = withRegions(2);
        for (int k = 0; k < 4; k++) {
            x.make(k, 1, PLAIN, k, 1);
        }
        x.make(4, 1, PLAIN, 9, 0);
        x.put(2, 0, 4);
        x.put(2, 0, 0);
        x.put(0, 0, 4);
        x.watch(2);
        x.watch(0);
        x.watch(3);
        for (int k = 0; k < 5; k++) {
            if (k != 3) {
                x.clear(k);
            }
        }
        is("one that is not watched is gone", x.collect(0), 1);
        is("the queue", x.count(9), 2);
        is("watched", x.count(8), 1);
        is("the queue holds", x.collect(0), 0);
        is("due(5)", x.due(5), 2);
        is("in their order", x.root(5, 3), 2);
        is("no longer watched", x.root(5, 6), 0);
        is("due(6)", x.due(6), 1);
        is("one that another one holds, too", x.root(6, 3), 0);
        is("what it holds", x.field(6, 0, 2), 9);
        x.make(7, 0, PLAIN, 1, 0);
        x.watch(7);
        x.clear(7);
        is("one that is not young", x.collect(1), 0);
        is("stays watched", x.count(8), 2);
        x.collect(0);
        is("comes to the queue when it is young", x.count(9), 1);
    }

    private static void collectOrderOfSteps() {
        of("4 collect: steps");
        RegionPool x = withRegions(1);
        x.make(0, 0, WEAK, 1, 1);
        x.make(1, 0, KEYED, 2, 2);
        x.make(2, 0, PLAIN, 3, 2);
        x.make(3, 0, WEAK, 4, 1);
        x.make(4, 0, PLAIN, 5, 0);
        x.put(0, 0, 2);
        x.put(1, 0, 2);
        x.put(1, 1, 4);
        x.put(2, 0, 3);
        x.put(3, 0, 2);
        x.watch(2);
        x.clear(2);
        x.clear(3);
        x.clear(4);
        is("collect(0)", x.collect(0), 0);
        is("weak ones lose what is queued", x.field(0, 0, 0), 0);
        is("keyed ones keep a key that is queued", x.field(1, 0, 2), 3);
        is("and what goes with it", x.field(1, 1, 2), 5);
        x.due(2);
        x.get(3, 2, 0);
        is("weak ones that have become live with it keep it", x.field(3, 0, 2), 3);

        RegionPool y = withRegions(1);
        y.make(0, 0, PLAIN, 1, 1);
        y.make(1, 0, WEAK, 2, 1);
        y.make(2, 0, PLAIN, 3, 0);
        y.put(1, 0, 2);
        y.put(0, 0, 1);
        y.watch(0);
        y.clear(0);
        y.clear(1);
        y.clear(2);
        is("what only a weak one refers to is gone", y.collect(0), 1);
        y.due(0);
        y.get(1, 0, 0);
        is("and its field is NIL", y.field(1, 0, 0), 0);
    }

    private static void clearNumberMove() {
        RegionPool x = withRegions(1);
        of("6 number");
        x.number(15, Integer.MIN_VALUE);
        is("sort", x.root(15, 0), 1);
        is("the number", x.root(15, 1), Integer.MIN_VALUE);
        of("7 move");
        x.move(0, 15);
        is("a number", x.root(0, 1), Integer.MIN_VALUE);
        is("from stays", x.root(15, 1), Integer.MIN_VALUE);
        x.make(1, 0, PLAIN, 5, 0);
        x.move(0, 1);
        is("a reference", x.root(0, 3), 5);
        x.move(0, 0);
        is("to itself", x.root(0, 3), 5);
        x.move(0, 2);
        is("NIL", x.root(0, 0), 0);
        of("5 clear");
        x.clear(1);
        x.clear(15);
        is("of a reference", x.root(1, 0), 0);
        is("of a number", x.root(15, 0), 0);
        is("NIL is 0", x.root(15, 1), 0);
        is("the object is still there", x.at(0), 5);
        for (int no : NO_ROOTS) {
            noRoot("clear", () -> x.clear(no));
            noRoot("number", () -> x.number(no, 0));
            noRoot("move to", () -> x.move(no, 0));
            noRoot("move from", () -> x.move(0, no));
        }
    }

    private static void make() {
        of("8 make");
        RegionPool x = withRegions(2);
        is("the first one", x.make(0, 0, PLAIN, 0, 4), 0);
        is("behind it", x.make(1, 0, WEAK, 999, 9), 5);
        is("in another region: another page", x.make(2, 1, KEYED, 7, 15), 16);
        is("the last place", x.make(3, 0, PLAIN, 1, 0), 15);
        is("a new page", x.make(4, 0, PLAIN, 2, 0), 32);
        is("kind", x.root(1, 2), WEAK);
        is("tag", x.root(1, 3), 999);
        is("fields", x.root(1, 4), 9);
        is("region", x.root(2, 5), 1);
        for (int i = 0; i < 15; i++) {
            is("fields are NIL", x.field(2, i, 0), 0);
        }
        is("row", x.page(0, 1), 2);
        is("make(0, ..) again", x.make(0, 0, PLAIN, 3, 0), 33);
        is("the root refers to it", x.root(0, 3), 3);
        is("the other one is still there", x.at(0), 0);
        is("no collection", x.count(3), 0);
        is("places left in the last page alone", x.make(5, 1, PLAIN, 4, 0), 48);
    }

    private static void makeWrong() {
        of("8 make");
        RegionPool x = withRegions(1);
        for (int no : NO_ROOTS) {
            noRoot("make: no such root, and all else is wrong", () -> x.make(no, 7, 9, -1, 99));
        }
        badArgument("region 1", () -> x.make(0, 1, PLAIN, 0, 0));
        badArgument("region -1", () -> x.make(0, -1, PLAIN, 0, 0));
        badArgument("kind 3", () -> x.make(0, 0, 3, 0, 1));
        badArgument("kind -1", () -> x.make(0, 0, -1, 0, 1));
        badArgument("tag 1000", () -> x.make(0, 0, PLAIN, 1000, 0));
        badArgument("tag -1", () -> x.make(0, 0, PLAIN, -1, 0));
        badArgument("16 fields", () -> x.make(0, 0, PLAIN, 0, 16));
        badArgument("-1 fields", () -> x.make(0, 0, PLAIN, 0, -1));
        badArgument("0 fields, keyed", () -> x.make(0, 0, KEYED, 0, 0));
        badArgument("16 fields, keyed", () -> x.make(0, 0, KEYED, 0, 16));
        is("nothing has changed", x.count(2) + x.root(0, 0) + x.region(0, 0), 0);
        is("1 field, keyed", x.make(0, 0, KEYED, 0, 1), 0);
        is("0 fields, weak", x.make(0, 0, WEAK, 0, 0), 2);
    }

    private static void makeCollects() {
        of("8 make: collects");
        RegionPool x = withRegions(1);
        fillPages(x, 0, 40);
        x.number(1, 5);
        is("no room", x.make(1, 0, PLAIN, 1, 0), NONE);
        is("the root stays", x.root(1, 1), 5);
        is("one collection alone: it is region 0", x.count(3), 1);
        x.get(0, 0, 0);
        is("the root's own object holds to the end", x.make(0, 0, PLAIN, 100, 15), 624);
        is("one was gone", x.count(4), 1);
        is("it collected once more", x.count(3), 2);
        x.clear(0);
        is("all gone but one", x.make(2, 0, PLAIN, 101, 0), 0);
        is("collections", x.count(3), 3);
        is("free pages", x.count(1), 39);
    }

    private static void makeCollectsTwice() {
        of("8 make: collects twice");
        RegionPool x = withRegions(2);
        fillPages(x, 0, 38);
        x.move(2, 0);
        fillPages(x, 1, 2);
        is("no room", x.make(1, 1, PLAIN, 1, 0), NONE);
        is("from its region on, then from region 0 on", x.count(3), 2);
        x.get(2, 2, 0);
        is("room by the second one", x.make(1, 1, PLAIN, 1, 0), 37 * 16);
        is("collections", x.count(3), 4);
        is("gone", x.count(4), 1);
        x.make(1, 1, PLAIN, 1, 14);
        x.clear(0);
        is("room by the first one", x.make(1, 1, PLAIN, 2, 15), x.page(1, 1) * 16);
        is("collections", x.count(3), 5);
    }

    private static void get() {
        of("9 get");
        RegionPool x = withRegions(1);
        x.make(0, 0, PLAIN, 1, 3);
        x.number(1, 42);
        x.put(0, 0, 1);
        x.put(0, 1, 0);
        is("get", x.get(2, 0, 0), true);
        is("a number", x.root(2, 1), 42);
        is("get", x.get(3, 0, 1), true);
        is("a reference", x.root(3, 3), 1);
        is("get", x.get(3, 0, 2), true);
        is("NIL", x.root(3, 0), 0);
        is("field 3", x.get(2, 0, 3), false);
        is("field -1", x.get(2, 0, -1), false);
        is("field MAX", x.get(2, 0, Integer.MAX_VALUE), false);
        is("the root stays", x.root(2, 1), 42);
        noReference("from a number", () -> x.get(2, 1, 0));
        noReference("from NIL", () -> x.get(2, 5, 9));
        for (int no : NO_ROOTS) {
            noRoot("to", () -> x.get(no, 5, 0));
            noRoot("from", () -> x.get(0, no, 0));
        }
        is("onto itself", x.get(0, 0, 0), true);
        is("root 0", x.root(0, 1), 42);
    }

    private static void put() {
        of("10 put");
        RegionPool x = withRegions(3);
        x.make(0, 0, PLAIN, 1, 2);
        x.make(1, 1, WEAK, 2, 2);
        x.make(2, 2, KEYED, 3, 2);
        is("a newer one", x.put(0, 0, 1), REFUSED);
        is("the field stays", x.field(0, 0, 0), 0);
        is("a much newer one into a weak one", x.put(1, 1, 2), REFUSED);
        is("an older one", x.put(2, 0, 0), 1);
        is("of the same region", x.put(1, 0, 1), 1);
        is("the field", x.field(1, 0, 2), 2);
        is("no such field, and a newer one", x.put(0, 2, 1), NONE);
        is("field -1", x.put(0, -1, 0), NONE);
        x.number(3, -8);
        is("a number", x.put(2, 0, 3), 1);
        is("the field", x.field(2, 0, 1), -8);
        is("NIL", x.put(2, 0, 4), 1);
        is("the field", x.field(2, 0, 0), 0);
        noReference("root is a number", () -> x.put(3, 0, 0));
        noReference("root is NIL", () -> x.put(4, 9, 0));
        for (int no : NO_ROOTS) {
            noRoot("root", () -> x.put(no, 0, 0));
            noRoot("from", () -> x.put(4, 0, no));
        }
    }

    private static void lift() {
        of("11 lift");
        RegionPool x = withRegions(3);
        x.make(0, 0, PLAIN, 1, 0);
        x.make(1, 1, PLAIN, 2, 1);
        x.make(2, 2, KEYED, 3, 3);
        x.make(3, 2, WEAK, 4, 1);
        x.make(4, 2, PLAIN, 5, 1);
        x.put(2, 0, 3);
        x.put(2, 1, 1);
        x.put(2, 2, 0);
        x.put(3, 0, 2);
        x.put(4, 0, 2);
        x.watch(4);
        x.watch(2);
        is("lift(2, 2): it is there", x.lift(2, 2), 0);
        is("lift(2, 1)", x.lift(2, 1), 2);
        is("its region", x.root(2, 5), 1);
        is("behind what is there", x.root(2, 1), 18);
        is("what its key refers to", x.field(2, 0, 1), 22);
        is("and the ring", x.field(3, 0, 1), 18);
        is("a field of one that is no part follows", x.field(4, 0, 1), 18);
        is("a root follows", x.root(3, 1), 22);
        is("it is watched as before", x.root(2, 6), 1);
        is("nothing where it was", x.at(32), NONE);
        is("objects", x.region(2, 1), 1);
        is("places taken", x.region(2, 2), 2);
        is("places that are not", x.region(2, 3), 14);
        is("its places are not used again", x.make(5, 2, PLAIN, 6, 0), 40);
        is("parts", x.count(6), 2);
        is("no object is gone or new", x.count(2), 6);
        is("lift(2, 0)", x.lift(2, 0), 3);
        is("in the order of the parts", x.field(2, 0, 1), 5);
        is("the last one", x.field(2, 1, 1), 7);
        is("parts", x.count(6), 5);
        is("no collection", x.count(3) + x.count(5), 0);
        x.clear(5);
        x.collect(2);
        is("the places are used again then", x.root(4, 1), 32);
        x.close();
        x.close();
        is("it outlives its region", x.root(2, 3), 3);
        is("watched", x.count(8), 1);
        is("lift of NIL", x.lift(9, 0), 0);
        x.number(9, 3);
        is("lift of a number", x.lift(9, 0), 0);
        badArgument("region 1", () -> x.lift(9, 1));
        badArgument("region -1", () -> x.lift(0, -1));
        for (int no : NO_ROOTS) {
            noRoot("lift", () -> x.lift(no, 99));
        }
    }

    private static void liftOrder() {
        of("11 lift: order");
        RegionPool x = withRegions(2);
        for (int k = 0; k < 5; k++) {
            x.make(k, 1, PLAIN, k, 2);
        }
        // 0 -> 2, 1; 2 -> 4, 1; 1 -> 3, 0: breadth first, each one once.
        x.put(0, 0, 2);
        x.put(0, 1, 1);
        x.put(2, 0, 4);
        x.put(2, 1, 1);
        x.put(1, 0, 3);
        x.put(1, 1, 0);
        x.watch(4);
        x.clear(4);
        x.make(5, 1, PLAIN, 9, 0);
        x.watch(5);
        x.clear(5);
        x.collect(1);
        is("the queue", x.count(9), 1);
        is("parts", x.lift(0, 0), 5);
        int[] due = {0, 2, 1, 4, 3};
        for (int k = 0; k < due.length; k++) {
            is("part " + k, x.at(x.page(0, 0) * 16 + 3 * k), due[k]);
        }
        x.due(6);
        is("lift of what was queued", x.lift(6, 0), 1);
        is("behind them", x.root(6, 1), x.page(0, 0) * 16 + 15);
        RegionPool y = withRegions(2);
        y.make(0, 1, PLAIN, 1, 1);
        y.make(1, 1, PLAIN, 2, 0);
        y.put(0, 0, 1);
        y.watch(1);
        y.watch(0);
        y.clear(0);
        y.clear(1);
        y.collect(0);
        y.due(0);
        y.move(1, 0);
        y.due(0);
        y.watch(1);
        y.clear(1);
        is("references of roots", y.lift(0, 0), 2);
        y.clear(0);
        y.collect(0);
        is("watched as before", y.count(9), 1);
        y.make(5, 1, PLAIN, 3, 1);
        y.due(5);
        is("from where it was lifted to", y.root(5, 5), 0);
    }

    private static void liftWithoutRoom() {
        of("11 lift: no room");
        RegionPool x = withRegions(2);
        fillPages(x, 0, 37);
        x.move(9, 0);
        x.make(0, 1, PLAIN, 1, 14);
        x.make(1, 1, PLAIN, 2, 13);
        x.put(0, 0, 1);
        is("free pages", x.count(1), 1);
        is("two parts, one page", x.lift(0, 0), NONE);
        is("nothing has changed", x.root(0, 5), 1);
        is("the page is still free", x.count(1), 1);
        is("parts", x.count(6), 0);
        is("no collection", x.count(3), 0);
        is("one part", x.lift(1, 0), 1);
        is("in the last page", x.root(1, 1), 39 * 16);
        is("one more: no room", x.lift(0, 0), NONE);
        is("its reference follows", x.field(0, 0, 1), 39 * 16);
        x.make(2, 1, PLAIN, 3, 0);
        is("a small one goes behind", x.lift(2, 0), 1);
        is("without a page", x.root(2, 1), 39 * 16 + 14);
    }

    // Region 1 has a chain of objects of 8 places, and as many pages are free as they take at least.
    private static void liftIntoFullPages() {
        of("11 lift: full pages");
        for (int objects = 1; objects <= 6; objects++) {
            int needed = (objects + 1) / 2;
            for (int free = needed - 1; free <= needed; free++) {
                RegionPool x = withRegions(2);
                fillPages(x, 0, 40 - needed - free);
                x.move(9, 0);
                x.clear(0);
                for (int k = 0; k < objects; k++) {
                    x.make(1, 1, PLAIN, k, 7);
                    x.put(1, 6, 0);
                    x.move(0, 1);
                }
                is("free pages", x.count(1), free);
                is("lift of " + objects, x.lift(0, 0), free == needed ? objects : NONE);
                is("free pages then", x.count(1), free == needed ? 0 : free);
            }
        }
    }

    private static void copy() {
        of("12 copy");
        RegionPool x = withRegions(2);
        x.make(0, 0, PLAIN, 1, 0);
        x.make(1, 1, KEYED, 2, 4);
        x.make(2, 1, WEAK, 3, 2);
        x.number(3, 6);
        x.put(1, 0, 2);
        x.put(1, 1, 0);
        x.put(1, 2, 3);
        x.put(1, 3, 1);
        x.put(2, 1, 1);
        x.watch(1);
        is("copy(5, 1, 0)", x.copy(5, 1, 0), 2);
        is("its place", x.root(5, 1), 1);
        is("kind", x.root(5, 2), KEYED);
        is("tag", x.root(5, 3), 2);
        is("fields", x.root(5, 4), 4);
        is("not watched", x.root(5, 6), 0);
        is("the copy of its key", x.field(5, 0, 1), 6);
        is("no part: the same", x.field(5, 1, 1), 0);
        is("a number", x.field(5, 2, 1), 6);
        is("itself: the copy", x.field(5, 3, 1), 1);
        x.get(6, 5, 0);
        is("the copy's ring", x.field(6, 1, 1), 1);
        is("parts stay", x.root(1, 1), 16);
        is("with their fields", x.field(1, 0, 1), 21);
        is("and are watched", x.root(1, 6), 1);
        is("copied", x.count(7), 2);
        is("lifted", x.count(6), 0);
        is("objects", x.count(2), 5);
        is("without parts", x.copy(7, 0, 0), 0);
        is("what that is itself", x.root(7, 1), 0);
        is("in a newer region: no parts", x.copy(7, 5, 1), 0);
        is("itself", x.root(7, 1), 1);
        is("a number", x.copy(7, 3, 1), 0);
        is("itself", x.root(7, 1), 6);
        is("NIL", x.copy(7, 9, 0), 0);
        is("itself", x.root(7, 0), 0);
        is("onto the same root", x.copy(1, 1, 0), 2);
        is("the second copy", x.root(1, 1), 9);
        is("copied", x.count(7), 4);
        badArgument("region 2", () -> x.copy(0, 0, 2));
        badArgument("region -1", () -> x.copy(0, 9, -1));
        for (int no : NO_ROOTS) {
            noRoot("to", () -> x.copy(no, 0, 9));
            noRoot("from", () -> x.copy(0, no, 9));
        }
    }

    private static void copyWithoutRoom() {
        of("12 copy: no room");
        RegionPool x = withRegions(2);
        fillPages(x, 0, 37);
        x.move(9, 0);
        x.make(0, 1, PLAIN, 1, 14);
        x.make(1, 1, PLAIN, 2, 13);
        x.put(0, 0, 1);
        x.number(5, 4);
        is("two parts, one page", x.copy(5, 0, 0), NONE);
        is("the root stays", x.root(5, 1), 4);
        is("the page is still free", x.count(1), 1);
        is("copied", x.count(7), 0);
        is("objects", x.count(2), 39);
        is("one part", x.copy(5, 1, 0), 1);
        is("in the last page", x.root(5, 1), 39 * 16);
        is("no free page is needed without parts", x.copy(6, 9, 0), 0);
    }

    private static void watch() {
        of("13 watch");
        RegionPool x = withRegions(1);
        x.make(0, 0, PLAIN, 1, 0);
        x.make(1, 0, PLAIN, 2, 0);
        is("root(0, 6)", x.root(0, 6), 0);
        is("watch", x.watch(1), true);
        is("watch", x.watch(0), true);
        is("again", x.watch(1), false);
        x.move(2, 0);
        is("by another root", x.watch(2), false);
        is("watched", x.count(8), 2);
        is("root(0, 6)", x.root(0, 6), 1);
        x.clear(0);
        x.clear(1);
        x.clear(2);
        x.collect(0);
        x.due(3);
        is("the one that was watched first", x.root(3, 3), 2);
        is("watch again", x.watch(3), true);
        x.clear(3);
        x.collect(0);
        is("behind the one in the queue", x.due(3), 2);
        is("that", x.root(3, 3), 1);
        noReference("NIL", () -> x.watch(9));
        x.number(9, 0);
        noReference("a number", () -> x.watch(9));
        for (int no : NO_ROOTS) {
            noRoot("watch", () -> x.watch(no));
        }
    }

    private static void due() {
        of("14 due");
        RegionPool x = withRegions(1);
        x.number(0, 5);
        is("without one", x.due(0), 0);
        is("the root stays", x.root(0, 1), 5);
        for (int k = 1; k <= 3; k++) {
            x.make(k, 0, PLAIN, k, 0);
            x.watch(k);
            x.clear(k);
        }
        x.collect(0);
        for (int k = 1; k <= 3; k++) {
            is("due(0)", x.due(0), 4 - k);
            is("the first one", x.root(0, 3), k);
            is("the queue", x.count(9), 3 - k);
        }
        is("no more", x.due(0), 0);
        is("the root stays", x.root(0, 3), 3);
        is("the others are not held any more", x.collect(0), 2);
        for (int no : NO_ROOTS) {
            noRoot("due", () -> x.due(no));
        }
    }

    private static void alike() {
        of("15 alike");
        RegionPool x = withRegions(2);
        is("NIL and NIL", x.alike(0, 1), true);
        x.number(1, 0);
        is("NIL and 0", x.alike(0, 1), false);
        x.number(0, 0);
        is("0 and 0", x.alike(0, 1), true);
        x.number(0, 1);
        is("1 and 0", x.alike(0, 1), false);
        x.make(2, 0, PLAIN, 0, 1);
        x.number(0, 0);
        is("a number and a reference to that place", x.alike(0, 2), false);
        x.make(3, 1, PLAIN, 0, 1);
        is("in other regions", x.alike(2, 3), true);
        x.watch(3);
        is("one is watched", x.alike(2, 3), true);
        x.put(2, 0, 0);
        is("another field", x.alike(2, 3), false);
        x.put(3, 0, 0);
        is("the same fields", x.alike(2, 3), true);
        x.make(4, 0, PLAIN, 1, 1);
        x.put(4, 0, 0);
        is("another tag", x.alike(2, 4), false);
        x.make(4, 0, WEAK, 0, 1);
        x.put(4, 0, 0);
        is("another kind", x.alike(2, 4), false);
        x.make(4, 0, PLAIN, 0, 2);
        x.put(4, 0, 0);
        is("one field more", x.alike(2, 4), false);
        for (int no : NO_ROOTS) {
            noRoot("a", () -> x.alike(no, 0));
            noRoot("b", () -> x.alike(0, no));
        }
    }

    private static void alikeRings() {
        of("15 alike: rings");
        RegionPool x = withRegions(1);
        ring(x, 0, 2, 7);
        ring(x, 4, 3, 7);
        is("rings of 2 and 3", x.alike(0, 4), true);
        x.make(8, 0, PLAIN, 7, 1);
        x.put(8, 0, 8);
        is("a ring of 1", x.alike(8, 4), true);
        x.make(9, 0, PLAIN, 7, 1);
        is("no ring", x.alike(9, 8), false);
        x.put(9, 0, 0);
        is("one ahead of a ring", x.alike(9, 8), true);
        x.make(10, 0, PLAIN, 8, 1);
        x.put(10, 0, 4);
        x.put(6, 0, 10);
        is("a ring with another tag in it", x.alike(0, 4), false);
        is("the other way", x.alike(4, 0), false);
        is("with itself", x.alike(4, 4), true);
    }

    // Roots first .. first + size - 1 refer each to the next one, the last one to the first.
    private static void ring(RegionPool x, int first, int size, int tag) {
        for (int k = 0; k < size; k++) {
            x.make(first + k, 0, PLAIN, tag, 1);
        }
        for (int k = 0; k < size; k++) {
            x.put(first + k, 0, first + (k + 1) % size);
        }
    }

    private static void root() {
        of("16 root");
        RegionPool x = withRegions(2);
        x.make(0, 0, PLAIN, 1, 0);
        x.make(0, 1, KEYED, 321, 5);
        x.watch(0);
        int[] due = {2, 16, KEYED, 321, 5, 1, 1};
        for (int what = 0; what < due.length; what++) {
            is("root(0, " + what + ")", x.root(0, what), due[what]);
        }
        x.number(1, -3);
        is("sort of a number", x.root(1, 0), 1);
        is("the number", x.root(1, 1), -3);
        is("sort of NIL", x.root(2, 0), 0);
        is("NIL", x.root(2, 1), 0);
        for (int what = 2; what <= 6; what++) {
            is("no reference", x.root(1, what), NONE);
            is("NIL", x.root(2, what), NONE);
        }
        for (int root = 0; root < 3; root++) {
            is("root(.., 7)", x.root(root, 7), NONE);
            is("root(.., -1)", x.root(root, -1), NONE);
        }
        for (int no : NO_ROOTS) {
            noRoot("root", () -> x.root(no, 99));
        }
    }

    private static void field() {
        of("17 field");
        RegionPool x = withRegions(1);
        x.make(0, 0, PLAIN, 1, 3);
        x.make(1, 0, PLAIN, 22, 0);
        x.number(2, 11);
        x.put(0, 0, 1);
        x.put(0, 1, 2);
        int[][] due = {{2, 4, 22}, {1, 11, NONE}, {0, 0, NONE}};
        for (int i = 0; i < 3; i++) {
            for (int what = 0; what < 3; what++) {
                is("field(0, " + i + ", " + what + ")", x.field(0, i, what), due[i][what]);
            }
            is("what 3", x.field(0, i, 3), NONE);
            is("what -1", x.field(0, i, -1), NONE);
        }
        is("field 3", x.field(0, 3, 0), NONE);
        is("field -1", x.field(0, -1, 0), NONE);
        is("of one without fields", x.field(1, 0, 0), NONE);
        is("of a number", x.field(2, 0, 0), NONE);
        is("of NIL", x.field(3, 0, 0), NONE);
        for (int no : NO_ROOTS) {
            noRoot("field", () -> x.field(no, 0, 0));
        }
    }

    private static void region() {
        of("18 region");
        RegionPool x = withRegions(2);
        x.make(0, 1, PLAIN, 1, 10);
        x.make(1, 1, PLAIN, 2, 6);
        x.make(2, 1, PLAIN, 3, 0);
        int[] due = {2, 3, 19, 13, NONE};
        for (int what = 0; what < due.length; what++) {
            is("region(1, " + what + ")", x.region(1, what), due[what]);
            is("region(0, " + what + ")", x.region(0, what), what < 4 ? 0 : NONE);
            is("region(2, " + what + ")", x.region(2, what), NONE);
            is("region(-1, " + what + ")", x.region(-1, what), NONE);
        }
        is("region(1, -1)", x.region(1, -1), NONE);
    }

    private static void page() {
        of("19 page");
        RegionPool x = withRegions(2);
        x.make(0, 0, PLAIN, 1, 15);
        x.make(0, 1, PLAIN, 2, 15);
        x.make(0, 0, PLAIN, 3, 15);
        is("page(0, 0)", x.page(0, 0), 0);
        is("page(1, 0)", x.page(1, 0), 1);
        is("page(0, 1)", x.page(0, 1), 2);
        is("page(0, 2)", x.page(0, 2), NONE);
        is("page(0, -1)", x.page(0, -1), NONE);
        is("page(0, 40)", x.page(0, 40), NONE);
        is("page(2, 0)", x.page(2, 0), NONE);
        is("page(-1, 0)", x.page(-1, 0), NONE);
        x.close();
        x.make(0, 0, PLAIN, 4, 15);
        x.make(1, 0, PLAIN, 5, 15);
        is("the least free page is in the row behind a greater one", x.page(0, 2), 1);
        is("collect: the row's order counts", x.collect(0), 2);
        is("the one of page 1 comes to page 0", x.at(0), 4);
        is("the one of page 3 comes to page 2", x.at(32), 5);
    }

    private static void at() {
        of("20 at");
        RegionPool x = withRegions(1);
        x.make(0, 0, PLAIN, 500, 2);
        x.make(1, 0, PLAIN, 0, 0);
        is("at(0)", x.at(0), 500);
        is("a field's place", x.at(1), NONE);
        is("at(3)", x.at(3), 0);
        is("at(4)", x.at(4), NONE);
        is("at(639)", x.at(639), NONE);
        for (int no : new int[] {-1, 640, Integer.MIN_VALUE, Integer.MAX_VALUE}) {
            is("no place", x.at(no), NONE);
        }
        fillPages(x, 0, 39);
        is("the last page", x.at(624), 38);
    }

    private static void count() {
        of("21 count");
        RegionPool x = withRegions(2);
        for (int k = 0; k < 4; k++) {
            x.make(k, 1, PLAIN, k, 1);
        }
        x.make(4, 0, PLAIN, 9, 0);
        x.watch(1);
        x.watch(2);
        x.clear(0);
        x.clear(1);
        x.collect(1);
        x.copy(5, 2, 0);
        x.lift(3, 0);
        x.lift(2, 0);
        int[] due = {2, 38, 5, 1, 1, 3, 2, 1, 1, 1};
        for (int what = 0; what < due.length; what++) {
            is("count(" + what + ")", x.count(what), due[what]);
        }
        is("count(10)", x.count(10), NONE);
        is("count(-1)", x.count(-1), NONE);
        is("count(MAX)", x.count(Integer.MAX_VALUE), NONE);
        x.collect(0);
        is("collections", x.count(3), 2);
        x.close();
        is("close is no collection", x.count(3), 2);
    }
}
