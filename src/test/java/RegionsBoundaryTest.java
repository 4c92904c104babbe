/** The boundary cases of promises 1 to 3, each sentence in a test of its own. */
public final class RegionsBoundaryTest extends Checks {
    public static void main(String[] args) {
        runSentences(RegionsBoundaryTest.class, 1, 2, 3);
    }

    // ---- 1: a new object

    static void promise01NoRegions() {
        says("No regions.");
        RegionPool x = new RegionPool();
        is("count(0)", x.count(0), 0);
        for (int what = 0; what <= 3; what++) {
            is("region(0, " + what + ")", x.region(0, what), NONE);
        }
        is("page(0, 0)", x.page(0, 0), NONE);
        is("close()", x.close(), NONE);
        badArgument("collect(0)", () -> x.collect(0));
        badArgument("make in region 0", () -> x.make(0, 0, PLAIN, 0, 0));
        badArgument("lift to region 0", () -> x.lift(0, 0));
        badArgument("copy to region 0", () -> x.copy(0, 0, 0));
    }

    static void promise01AllPagesAreFree() {
        says("at first all are free");
        RegionPool x = new RegionPool();
        is("count(1)", x.count(1), 40);
        is("count(2)", x.count(2), 0);
        for (int place = 0; place < 320; place++) {
            is("at(" + place + ")", x.at(place), NONE);
        }
        RegionPool y = new RegionPool();
        for (int place = 320; place < 640; place++) {
            is("at(" + place + ")", y.at(place), NONE);
        }
    }

    static void promise01EachPageHasSixteenPlaces() {
        says("page p the places 16 * p .. 16 * p + 15");
        RegionPool x = withRegions(1);
        for (int p = 0; p < 40; p++) {
            is("the first object of page " + p, x.make(0, 0, PLAIN, 0, 14), 16 * p);
            is("the last place of page " + p, x.make(1, 0, PLAIN, 0, 0), 16 * p + 15);
            is("page(0, " + p + ")", x.page(0, p), p);
            is("count(1)", x.count(1), 39 - p);
        }
        is("no collection was needed", x.count(3), 0);
    }

    static void promise01RootsAreNil() {
        says("ROOTS 0 .. 15 have a value each, at first NIL.");
        RegionPool x = new RegionPool();
        for (int root = 0; root < 16; root++) {
            is("sort of root " + root, x.root(root, 0), 0);
            is("content of root " + root, x.root(root, 1), 0);
            is("kind of root " + root, x.root(root, 2), NONE);
        }
        noRoot("root -1", () -> x.root(-1, 0));
        noRoot("root 16", () -> x.root(16, 0));
    }

    static void promise01NothingIsCounted() {
        says("3 collections so far, 4 objects that were gone by these");
        RegionPool x = new RegionPool();
        for (int what = 2; what <= 9; what++) {
            is("count(" + what + ")", x.count(what), 0);
        }
    }

    static void promise01PoolsShareNothing() {
        says("No regions.");
        RegionPool before = new RegionPool();
        busy();
        RegionPool behind = new RegionPool();
        for (int what = 0; what <= 9; what++) {
            int due = what == 1 ? 40 : 0;
            is("count(" + what + ") of one made before", before.count(what), due);
            is("count(" + what + ") of one made behind", behind.count(what), due);
        }
        is("root 0 of one made before", before.root(0, 0), 0);
    }

    // ---- 2: open

    static void promise02NumbersFromZeroOn() {
        says("A new region, the newest one: its number");
        RegionPool x = new RegionPool();
        for (int r = 0; r < 8; r++) {
            is("open()", x.open(), r);
            is("count(0)", x.count(0), r + 1);
        }
    }

    static void promise02NoneIfThereAreEight() {
        says("NONE if there are 8.");
        RegionPool x = withRegions(7);
        is("with 7 regions", x.open(), 7);
        is("with 8 regions", x.open(), NONE);
        is("once more", x.open(), NONE);
        is("count(0)", x.count(0), 8);
        is("region(8, 0)", x.region(8, 0), NONE);
    }

    static void promise02NoneChangesNothing() {
        says("what throws, or answers NONE or REFUSED, changes nothing");
        changesNothing("open() with 8 regions", RegionsBoundaryTest::busyWithEight, RegionPool::open);
    }

    private static RegionPool busyWithEight() {
        RegionPool x = busy();
        for (int r = 3; r < 8; r++) {
            x.open();
            x.make(r + 6, r, PLAIN, r, 1);
        }
        return x;
    }

    static void promise02OneMoreBehindAClose() {
        says("REGIONS 0, 1, .. (at most 8) lie on a stack");
        RegionPool x = withRegions(8);
        x.close();
        is("behind a close()", x.open(), 7);
        is("the ninth again", x.open(), NONE);
        for (int r = 0; r < 8; r++) {
            x.close();
        }
        is("behind eight of them", x.open(), 0);
    }

    static void promise02TheRowIsEmptyAtFirst() {
        says("Each has a ROW of pages, none at first.");
        RegionPool x = withRegions(2);
        x.make(0, 0, PLAIN, 1, 0);
        x.make(1, 1, PLAIN, 2, 0);
        x.close();
        x.open();
        for (int what = 0; what <= 3; what++) {
            is("region(1, " + what + ")", x.region(1, what), 0);
        }
        is("page(1, 0)", x.page(1, 0), NONE);
        is("its first object begins a page", x.make(1, 1, PLAIN, 3, 0), 16);
    }

    static void promise02NeedsNoPage() {
        says("A new region, the newest one: its number");
        RegionPool x = withRegions(1);
        fillPages(x, 0, 40);
        is("free pages", x.count(1), 0);
        is("open() in a full pool", x.open(), 1);
        is("no collection", x.count(3), 0);
    }

    // ---- 3: close

    static void promise03NoneWithoutARegion() {
        says("NONE without a region.");
        RegionPool x = new RegionPool();
        is("of a new pool", x.close(), NONE);
        is("once more", x.close(), NONE);
        is("count(0)", x.count(0), 0);
        is("open()", x.open(), 0);
        is("the only one", x.close(), 0);
        is("behind it", x.close(), NONE);
    }

    static void promise03NoneChangesNothing() {
        says("what throws, or answers NONE or REFUSED, changes nothing");
        changesNothing("close() without a region", RegionsBoundaryTest::busyWithNone, RegionPool::close);
    }

    private static RegionPool busyWithNone() {
        RegionPool x = busy();
        for (int r = 0; r < 3; r++) {
            x.close();
        }
        x.number(3, 5);
        return x;
    }

    static void promise03HowManyPages() {
        says("its pages are free: how many these were");
        RegionPool x = withRegions(1);
        is("without a page", x.close(), 0);
        x.open();
        x.make(0, 0, PLAIN, 1, 15);
        is("one full page", x.close(), 1);
        x.open();
        x.make(0, 0, PLAIN, 1, 15);
        x.make(0, 0, PLAIN, 1, 0);
        is("one place more", x.close(), 2);
        x.open();
        fillPages(x, 0, 40);
        is("all pages", x.close(), 40);
        is("count(1)", x.count(1), 40);
    }

    static void promise03PagesWithoutAnObjectCountToo() {
        says("its pages are free: how many these were");
        RegionPool x = withRegions(2);
        x.make(0, 1, PLAIN, 1, 15);
        x.lift(0, 0);
        is("objects of the newest", x.region(1, 1), 0);
        is("close()", x.close(), 1);
        is("count(1)", x.count(1), 39);
    }

    static void promise03ItsPagesAreFree() {
        says("The newest region goes, its pages are free");
        RegionPool x = withRegions(2);
        x.make(0, 1, PLAIN, 1, 15);
        x.make(1, 0, PLAIN, 2, 15);
        x.make(2, 1, PLAIN, 3, 15);
        x.close();
        is("the first of its pages", x.make(3, 0, PLAIN, 4, 15), 0);
        is("the other one", x.make(4, 0, PLAIN, 5, 15), 32);
        is("one that was free before", x.make(5, 0, PLAIN, 6, 15), 48);
    }

    static void promise03ItsObjectsAreGone() {
        says("Its objects are gone");
        RegionPool x = withRegions(2);
        x.make(0, 0, PLAIN, 1, 1);
        x.make(1, 1, PLAIN, 2, 1);
        x.make(2, 1, PLAIN, 3, 0);
        x.close();
        is("count(2)", x.count(2), 1);
        is("at(16)", x.at(16), NONE);
        is("at(18)", x.at(18), NONE);
        is("region(1, 1)", x.region(1, 1), NONE);
        is("an older region's object", x.at(0), 1);
        x.make(3, 0, PLAIN, 4, 13);
        x.make(3, 0, PLAIN, 5, 3);
        is("in its page then", x.root(3, 1), 16);
        for (int i = 0; i < 3; i++) {
            is("nothing is left of it", x.field(3, i, 0), 0);
        }
    }

    static void promise03RootsBecomeNil() {
        says("roots that referred to one are NIL");
        RegionPool x = withRegions(2);
        x.make(1, 0, PLAIN, 1, 0);
        x.make(0, 1, PLAIN, 2, 0);
        x.move(15, 0);
        x.number(2, 16);
        x.close();
        is("sort of root 0", x.root(0, 0), 0);
        is("content of root 0", x.root(0, 1), 0);
        is("sort of root 15", x.root(15, 0), 0);
        is("one to an older region stays", x.root(1, 3), 1);
        is("a number stays", x.root(2, 0), 1);
        is("it is the same", x.root(2, 1), 16);
    }

    static void promise03TheQueueIsWithoutThem() {
        says("the queue is without them");
        RegionPool x = queued(new int[] {1, 0, 1, 0, 1});
        x.close();
        is("count(9)", x.count(9), 2);
        is("due(0)", x.due(0), 2);
        is("the first one left", x.root(0, 3), 1);
        is("due(0)", x.due(0), 1);
        is("the second one left", x.root(0, 3), 3);
        is("no more", x.due(0), 0);
        RegionPool y = queued(new int[] {1, 1});
        y.close();
        is("none left", y.count(9), 0);
        is("due(0)", y.due(0), 0);
        is("the root stays", y.root(0, 0), 0);
    }

    // Two regions, and in the queue one object of each region that is named, tagged by its turn.
    private static RegionPool queued(int[] regions) {
        RegionPool x = withRegions(2);
        for (int k = 0; k < regions.length; k++) {
            x.make(0, regions[k], PLAIN, k, 0);
            x.watch(0);
        }
        x.clear(0);
        x.collect(0);
        return x;
    }

    static void promise03TheyAreNotWatchedAnyMore() {
        says("Its objects are gone");
        RegionPool x = withRegions(2);
        x.make(0, 0, PLAIN, 1, 0);
        x.make(1, 1, PLAIN, 2, 0);
        x.watch(1);
        x.watch(0);
        x.close();
        is("count(8)", x.count(8), 1);
        is("an older region's one is", x.root(0, 6), 1);
        x.open();
        x.make(1, 1, PLAIN, 3, 0);
        is("a new one at its place is not", x.root(1, 6), 0);
        is("watch(1)", x.watch(1), true);
    }

    static void promise03OnlyTheNewest() {
        says("The newest region goes");
        RegionPool x = withRegions(3);
        for (int r = 0; r < 3; r++) {
            x.make(r, r, PLAIN, r, r);
        }
        x.close();
        is("count(0)", x.count(0), 2);
        is("region(2, 0)", x.region(2, 0), NONE);
        for (int r = 0; r < 2; r++) {
            is("objects of region " + r, x.region(r, 1), 1);
            is("root " + r, x.root(r, 5), r);
        }
    }

    static void promise03IsNoCollection() {
        says("4 objects that were gone by these");
        RegionPool x = withRegions(2);
        x.make(0, 1, PLAIN, 1, 0);
        x.make(1, 0, PLAIN, 2, 0);
        x.clear(1);
        x.close();
        is("count(3)", x.count(3), 0);
        is("count(4)", x.count(4), 0);
        is("nothing else is gone", x.count(2), 1);
    }
}
