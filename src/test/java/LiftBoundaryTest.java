/** The boundary cases of promises 11 and 12, each sentence in a test of its own. */
public final class LiftBoundaryTest extends Checks {
    public static void main(String[] args) {
        runSentences(LiftBoundaryTest.class, 11, 12);
    }

    // ---- 11: lift

    static void promise11NoParts() {
        says("its PARTS are the object to which it refers, if that is in a region newer than r");
        RegionPool x = withRegions(3);
        x.make(0, 1, PLAIN, 1, 0);
        x.number(1, 16);
        is("to its own region", x.lift(0, 1), 0);
        is("to a newer one", x.lift(0, 2), 0);
        is("it stays", x.root(0, 5), 1);
        is("a number", x.lift(1, 0), 0);
        is("NIL", x.lift(2, 0), 0);
        is("count(6)", x.count(6), 0);
        is("to the next older one", x.lift(0, 0), 1);
        is("count(6)", x.count(6), 1);
        is("its region", x.root(0, 5), 0);
        for (Use use : new Use[] {y -> y.lift(0, 0), y -> y.lift(0, 2), y -> y.lift(6, 0), y -> y.lift(9, 0)}) {
            changesNothing("lift without parts", Checks::busy, use);
        }
    }

    static void promise11NoPartsNeedNoRoom() {
        says("There is room if all could be placed in r");
        RegionPool x = withRegions(2);
        fillPages(x, 0, 40);
        is("no page for region 1", x.lift(0, 1), 0);
        is("no page for region 0", x.lift(0, 0), 0);
        is("a number", x.lift(2, 1), 0);
    }

    static void promise11ThroughAllRegions() {
        says("the objects in regions newer than r to which its fields (all, of any kind) refer");
        for (int r = 0; r < 8; r++) {
            RegionPool x = withRegions(8);
            x.make(0, 0, PLAIN, 0, 1);
            for (int k = 1; k < 8; k++) {
                x.make(1, k, k % 3, k, 2);
                x.put(1, k % 2, 0);
                x.move(0, 1);
            }
            is("parts newer than " + r, x.lift(0, r), 7 - r);
            is("its region", x.root(0, 5), r);
            for (int k = 0; k < 8; k++) {
                is("objects of region " + k, x.region(k, 1), k < r ? 1 : k == r ? 8 - r : 0);
            }
        }
    }

    static void promise11FieldsOfAnyKind() {
        says("to which its fields (all, of any kind) refer");
        for (int kind = 0; kind <= 2; kind++) {
            RegionPool x = withRegions(2);
            x.make(0, 1, kind, 1, 15);
            x.make(1, 1, PLAIN, 2, 0);
            x.make(2, 1, PLAIN, 3, 0);
            x.put(0, 0, 1);
            x.put(0, 14, 2);
            is("parts by the first field and the last one", x.lift(0, 0), 3);
            is("the first field's", x.root(1, 5), 0);
            is("the last field's", x.root(2, 5), 0);
        }
    }

    static void promise11ADeadKeysOnesAreParts() {
        says("to which its fields (all, of any kind) refer");
        RegionPool x = withRegions(2);
        x.make(0, 1, KEYED, 1, 2);
        x.make(1, 1, PLAIN, 2, 0);
        x.make(2, 1, PLAIN, 3, 0);
        x.put(0, 0, 1);
        x.put(0, 1, 2);
        clearRoots(x, 1, 2);
        is("lift(0, 0)", x.lift(0, 0), 3);
        is("the key", x.field(0, 0, 2), 2);
        is("the value", x.field(0, 1, 2), 3);
    }

    static void promise11EachPartOnce() {
        says("if they are no parts yet");
        RegionPool x = withRegions(2);
        x.make(0, 1, PLAIN, 1, 3);
        x.make(1, 1, PLAIN, 2, 2);
        x.put(0, 0, 0);
        x.put(0, 1, 1);
        x.put(0, 2, 1);
        x.put(1, 0, 0);
        x.put(1, 1, 1);
        is("a ring of one and one of two", x.lift(0, 0), 2);
        is("objects", x.count(2), 2);
        is("lifted again", x.lift(0, 0), 0);
    }

    static void promise11InOrder() {
        says("then, of each part in order");
        RegionPool x = withRegions(2);
        for (int k = 0; k < 7; k++) {
            x.make(k, 1, PLAIN, k, 2);
        }
        int[][] links = {{0, 0, 4}, {0, 1, 2}, {4, 0, 6}, {4, 1, 1}, {2, 0, 5}, {2, 1, 3}};
        for (int[] link : links) {
            x.put(link[0], link[1], link[2]);
        }
        is("lift(0, 0)", x.lift(0, 0), 7);
        // Each takes three places, so there are five to a page; region 1 has the first two pages.
        int[] tags = {0, 4, 2, 6, 1, 5, 3};
        for (int k = 0; k < 7; k++) {
            is("part " + k, x.at(16 * (2 + k / 5) + 3 * (k % 5)), tags[k]);
        }
    }

    static void promise11PartsAreFoundAnew() {
        says("its PARTS are the object to which it refers, if that is in a region newer than r");
        RegionPool x = linked(4);
        x.copy(5, 0, 0);
        is("the last one alone", x.lift(3, 0), 1);
        is("the third one stays", x.root(2, 5), 1);
        is("the last two, of which one is lifted", x.lift(2, 0), 1);
        is("the rest", x.lift(0, 0), 2);
    }

    // Roots 0 .. objects - 1 in region 1: each refers to the next one.
    private static RegionPool linked(int objects) {
        RegionPool x = withRegions(2);
        for (int k = 0; k < objects; k++) {
            x.make(k, 1, PLAIN, k, 1);
        }
        for (int k = 0; k < objects - 1; k++) {
            x.put(k, 0, k + 1);
        }
        return x;
    }

    static void promise11ToTheLeastFreePage() {
        says("else at the beginning of the least free page, which comes to the end of the row then");
        RegionPool x = withRegions(3);
        x.make(0, 2, PLAIN, 1, 0);
        x.make(1, 1, PLAIN, 2, 1);
        x.put(1, 0, 1);
        x.close();
        is("lift(1, 0)", x.lift(1, 0), 1);
        is("its place", x.root(1, 1), 0);
        is("its field", x.field(1, 0, 1), 0);
        is("page(0, 0)", x.page(0, 0), 0);
    }

    static void promise11JustRoom() {
        says("There is room if all could be placed in r, in their order, as it is now.");
        RegionPool x = withRegions(2);
        chain(x, 160);
        is("20 pages are free", x.count(1), 20);
        is("160 objects of 2 places", x.lift(0, 0), 160);
        is("no page is free", x.count(1), 0);
        is("the last place", x.at(638), 0);
    }

    static void promise11OnePlaceTooFew() {
        says("NONE if there is no room.");
        RegionPool x = withRegions(2);
        chain(x, 161);
        is("19 pages are free", x.count(1), 19);
        is("161 objects of 2 places", x.lift(0, 0), NONE);
        is("19 pages are free", x.count(1), 19);
        is("objects of region 1", x.region(1, 1), 161);
        is("count(6)", x.count(6), 0);
        is("no collection", x.count(3), 0);
    }

    // Roots 0 and 1: a chain of objects of 2 places in region 1, the latest one in root 0.
    private static void chain(RegionPool x, int objects) {
        int root = objects % 2 == 0 ? 1 : 0;
        for (int k = 0; k < objects; k++) {
            x.make(root, 1, PLAIN, k, 1);
            x.put(root, 0, 1 - root);
            root = 1 - root;
        }
    }

    static void promise11InTheirOrderAloneThereIsNoRoom() {
        says("There is room if all could be placed in r, in their order, as it is now.");
        RegionPool x = eightLeft(8, 7);
        is("9 places, then 8: a page, and one more", x.lift(1, 0), NONE);
        RegionPool y = eightLeft(7, 8);
        is("8 places, then 9: behind the latest one, and a page", y.lift(1, 0), 2);
        is("the first", y.root(1, 1), 36 * 16 + 8);
        is("the second", y.field(1, 0, 1), 39 * 16);
        RegionPool z = eightLeft(8, 6);
        is("9 places, then 7: a page", z.lift(1, 0), 2);
        is("the first", z.root(1, 1), 39 * 16);
        is("the second", z.field(1, 0, 1), 39 * 16 + 9);
    }

    // Region 0 has 37 pages, with 8 places left in the last one; region 1 has two, and one is free.
    // Root 1 has a part in region 1 that has another one.
    private static RegionPool eightLeft(int fields, int fieldsOfTheOther) {
        RegionPool x = withRegions(2);
        fillPages(x, 0, 36);
        x.make(2, 0, PLAIN, 90, 7);
        x.make(1, 1, PLAIN, 91, fields);
        x.make(3, 1, PLAIN, 92, fieldsOfTheOther);
        x.put(1, 0, 3);
        if (x.region(1, 0) == 1) {
            x.make(4, 1, PLAIN, 93, 15);
        }
        is("free pages", x.count(1), 1);
        return x;
    }

    static void promise11ItsOwnPlacesAreNoRoom() {
        says("as it is now");
        RegionPool x = withRegions(2);
        fillPages(x, 0, 39);
        x.make(2, 1, PLAIN, 1, 15);
        is("no page is free", x.count(1), 0);
        is("lift(2, 0)", x.lift(2, 0), NONE);
        is("it does not collect", x.count(3), 0);
    }

    static void promise11RoomBehindTheLatestOne() {
        says("behind the latest one in the last page of its row, if n + 1 places are left in that");
        RegionPool x = withRegions(2);
        fillPages(x, 0, 38);
        x.make(2, 0, PLAIN, 1, 11);
        x.make(3, 1, PLAIN, 2, 3);
        x.make(4, 1, PLAIN, 3, 4);
        is("no page is free", x.count(1), 0);
        is("5 places, 4 are left", x.lift(4, 0), NONE);
        is("4 places", x.lift(3, 0), 1);
        is("its place", x.root(3, 1), 38 * 16 + 12);
        is("no place is left", x.lift(4, 0), NONE);
    }

    static void promise11NoRoomInARegionWithoutAPage() {
        says("Without a free page there is no room.");
        RegionPool x = withRegions(3);
        fillPages(x, 0, 39);
        x.make(2, 2, PLAIN, 1, 0);
        is("to region 1", x.lift(2, 1), NONE);
        is("it has no page still", x.region(1, 0), 0);
        x.get(0, 0, 0);
        x.collect(0);
        is("a page is free", x.lift(2, 1), 1);
        is("its place", x.root(2, 1), 38 * 16);
    }

    static void promise11LiftedPlacesAreNoRoomForALift() {
        says("these places are not used again until the region is collected, or goes");
        RegionPool x = withRegions(3);
        x.make(0, 1, PLAIN, 1, 4);
        x.make(1, 2, PLAIN, 2, 4);
        x.make(2, 2, PLAIN, 3, 0);
        x.lift(0, 0);
        is("to a region from which one was lifted", x.lift(1, 1), 1);
        is("behind where that was", x.root(1, 1), 5);
        x.collect(1);
        is("when it is collected", x.root(1, 1), 0);
        is("the next one", x.lift(2, 1), 1);
        is("behind it", x.root(2, 1), 5);
    }

    static void promise11NoneChangesNothing() {
        says("what throws, or answers NONE or REFUSED, changes nothing");
        is("without room", withTooManyParts().lift(0, 0), NONE);
        changesNothing("lift without room", LiftBoundaryTest::withTooManyParts, x -> x.lift(0, 0));
    }

    // One page is free, and root 0 has parts for two in region 1.
    private static RegionPool withTooManyParts() {
        RegionPool x = withRegions(2);
        fillPages(x, 0, 37);
        x.move(9, 0);
        x.make(0, 1, PLAIN, 100, 9);
        x.make(1, 1, PLAIN, 101, 9);
        x.put(0, 0, 1);
        x.watch(1);
        return x;
    }

    static void promise11ReferencesFollow() {
        says("all references to them (of roots, the queue, fields) follow");
        RegionPool x = withRegions(3);
        x.make(0, 2, PLAIN, 1, 2);
        x.make(1, 2, WEAK, 2, 1);
        x.make(2, 2, KEYED, 3, 2);
        x.put(0, 0, 0);
        x.put(1, 0, 0);
        x.put(2, 0, 0);
        x.put(2, 1, 0);
        x.move(15, 0);
        is("lift(0, 1)", x.lift(0, 1), 1);
        is("its place", x.root(0, 1), 16);
        is("another root", x.root(15, 1), 16);
        is("its own field", x.field(0, 0, 1), 16);
        is("a weak one's field", x.field(1, 0, 1), 16);
        is("a key", x.field(2, 0, 1), 16);
        is("a keyed one's other field", x.field(2, 1, 1), 16);
        is("those that referred to it stay", x.root(1, 1), 3);
    }

    static void promise11TheQueueFollows() {
        says("all references to them (of roots, the queue, fields) follow");
        RegionPool x = withRegions(2);
        x.make(0, 1, PLAIN, 1, 1);
        x.make(1, 1, PLAIN, 2, 0);
        x.put(0, 0, 1);
        x.watch(0);
        x.watch(1);
        clearRoots(x, 0, 1);
        x.collect(1);
        x.due(0);
        is("both", x.lift(0, 0), 2);
        x.close();
        is("the queue's one outlives its region", x.count(9), 1);
        x.due(1);
        is("it is in region 0", x.root(1, 5), 0);
        is("its tag", x.root(1, 3), 2);
    }

    static void promise11TheyAreWatchedAsBefore() {
        says("they are watched as before");
        RegionPool x = withRegions(2);
        for (int k = 0; k < 4; k++) {
            x.make(k, 1, PLAIN, k, 1);
        }
        x.watch(2);
        x.watch(0);
        x.watch(3);
        x.lift(2, 0);
        x.lift(1, 0);
        is("one that is", x.root(2, 6), 1);
        is("one that is not", x.root(1, 6), 0);
        is("watch(2)", x.watch(2), false);
        clearRoots(x, 0, 3);
        x.collect(0);
        for (int tag : new int[] {2, 0, 3}) {
            x.due(0);
            is("in their order", x.root(0, 3), tag);
        }
    }

    static void promise11WhereTheyWereThereAreNone() {
        says("where they were there are no objects any more");
        RegionPool x = withRegions(2);
        x.make(0, 1, PLAIN, 1, 2);
        x.make(1, 1, PLAIN, 2, 0);
        x.lift(0, 0);
        is("at(0)", x.at(0), NONE);
        is("objects of region 1", x.region(1, 1), 1);
        is("places they take", x.region(1, 2), 1);
        is("places they do not", x.region(1, 3), 15);
        is("pages", x.region(1, 0), 1);
        is("objects", x.count(2), 2);
        x.lift(1, 0);
        is("pages without an object stay", x.region(1, 0), 1);
        is("all their places", x.region(1, 3), 16);
        is("nothing of it is gone by a collection", x.collect(1), 0);
        is("pages then", x.region(1, 0), 0);
    }

    static void promise11NoSuchRoot() {
        says("IndexOutOfBoundsException: no such root.");
        RegionPool x = withRegions(1);
        for (int no : NO_ROOTS) {
            noRoot("lift(" + no + ", 0)", () -> x.lift(no, 0));
            noRoot("lift(" + no + ", 1)", () -> x.lift(no, 1));
            changesNothing("lift(" + no + ", 0)", Checks::busy, y -> y.lift(no, 0));
        }
    }

    static void promise11NoSuchRegion() {
        says("IllegalArgumentException: no such region.");
        RegionPool x = withRegions(2);
        x.make(0, 1, PLAIN, 1, 0);
        for (int no : new int[] {-1, 2, 8, LEAST, MOST}) {
            badArgument("lift(0, " + no + ")", () -> x.lift(0, no));
            badArgument("of NIL", () -> x.lift(1, no));
        }
        changesNothing("lift(3, 3)", Checks::busy, y -> y.lift(3, 3));
        changesNothing("lift(3, -1)", Checks::busy, y -> y.lift(3, -1));
    }

    // ---- 12: copy

    static void promise12NoParts() {
        says("what that is itself, if there are no parts");
        RegionPool x = withRegions(3);
        x.make(0, 1, PLAIN, 1, 0);
        x.number(1, LEAST);
        is("to its own region", x.copy(5, 0, 1), 0);
        is("the same object", x.root(5, 1), x.root(0, 1));
        is("to a newer one", x.copy(6, 0, 2), 0);
        is("the same object", x.root(6, 1), x.root(0, 1));
        is("a number", x.copy(5, 1, 0), 0);
        is("the same number", x.root(5, 1), LEAST);
        is("NIL", x.copy(5, 9, 0), 0);
        is("NIL", x.root(5, 0), 0);
        is("objects", x.count(2), 1);
        is("count(7)", x.count(7), 0);
        is("to the next older one", x.copy(5, 0, 0), 1);
        is("count(7)", x.count(7), 1);
        leavesAs("copy without parts", Checks::busy, y -> y.copy(15, 0, 0), y -> y.move(15, 0));
        leavesAs("copy of a number", Checks::busy, y -> y.copy(15, 6, 0), y -> y.move(15, 6));
    }

    static void promise12NoPartsNeedNoRoom() {
        says("what that is itself, if there are no parts");
        RegionPool x = withRegions(2);
        fillPages(x, 0, 40);
        is("no page for region 1", x.copy(2, 0, 1), 0);
        is("the same object", x.root(2, 3), 39);
        is("no page for region 0", x.copy(3, 0, 0), 0);
        is("the same object", x.root(3, 3), 39);
    }

    static void promise12TheSameKindTagAndFields() {
        says("for each a new object with the same kind, tag, number of fields is placed in r");
        for (int kind = 0; kind <= 2; kind++) {
            for (int fields : new int[] {kind == KEYED ? 1 : 0, 15}) {
                RegionPool x = withRegions(2);
                x.make(0, 1, kind, 999 * (fields % 2), fields);
                is("copy(1, 0, 0)", x.copy(1, 0, 0), 1);
                int[] due = {2, 16, kind, 999 * (fields % 2), fields, 0, 0};
                for (int what = 0; what < due.length; what++) {
                    is("root(1, " + what + ")", x.root(1, what), due[what]);
                }
                is("alike(0, 1)", x.alike(0, 1), true);
            }
        }
    }

    static void promise12PartsStayWhereTheyAre() {
        says("parts stay where they are");
        RegionPool x = withRegions(2);
        x.make(0, 1, PLAIN, 1, 2);
        x.make(1, 1, PLAIN, 2, 1);
        x.put(0, 0, 1);
        x.put(1, 0, 0);
        x.move(3, 0);
        is("copy(4, 0, 0)", x.copy(4, 0, 0), 2);
        is("the first", x.root(0, 1), 0);
        is("the second", x.root(1, 1), 3);
        is("another root", x.root(3, 1), 0);
        is("the first one's field", x.field(0, 0, 1), 3);
        is("the second one's field", x.field(1, 0, 1), 0);
        is("objects of region 1", x.region(1, 1), 2);
        is("objects of region 0", x.region(0, 1), 2);
    }

    static void promise12FieldsHaveWhatThePartsHave() {
        says("its fields have what the part's have, but for references to parts: to the copies of these");
        RegionPool x = withRegions(2);
        x.make(0, 0, PLAIN, 1, 0);
        x.make(1, 1, PLAIN, 2, 15);
        x.make(2, 1, WEAK, 3, 1);
        x.number(3, 17);
        x.put(1, 0, 2);
        x.put(1, 1, 0);
        x.put(1, 2, 3);
        x.put(1, 14, 1);
        x.put(2, 0, 1);
        is("copy(5, 1, 0)", x.copy(5, 1, 0), 2);
        is("its place", x.root(5, 1), 48);
        is("a part", x.field(5, 0, 1), 64);
        is("one that is no part", x.field(5, 1, 1), 0);
        is("a number like a place", x.field(5, 2, 1), 17);
        is("NIL", x.field(5, 3, 0), 0);
        is("itself", x.field(5, 14, 1), 48);
        x.get(6, 5, 0);
        is("the other copy's field", x.field(6, 0, 1), 48);
    }

    static void promise12TheCopiesAreNotWatched() {
        says("The copies are not watched.");
        RegionPool x = withRegions(2);
        x.make(0, 1, PLAIN, 1, 1);
        x.make(1, 1, PLAIN, 2, 0);
        x.put(0, 0, 1);
        x.watch(0);
        x.watch(1);
        x.copy(2, 0, 0);
        x.get(3, 2, 0);
        is("the first copy", x.root(2, 6), 0);
        is("the second copy", x.root(3, 6), 0);
        is("the part", x.root(0, 6), 1);
        is("count(8)", x.count(8), 2);
        is("watch(2)", x.watch(2), true);
    }

    static void promise12TheQueueDoesNotFollow() {
        says("parts stay where they are");
        RegionPool x = withRegions(2);
        x.make(0, 1, PLAIN, 1, 1);
        x.make(1, 1, PLAIN, 2, 0);
        x.put(0, 0, 1);
        x.watch(0);
        x.watch(1);
        clearRoots(x, 0, 1);
        x.collect(1);
        x.due(0);
        is("copy(0, 0, 0)", x.copy(0, 0, 0), 2);
        x.due(1);
        is("the queue's one is the part", x.root(1, 5), 1);
    }

    static void promise12PartsAreFoundAnew() {
        says("parts stay where they are");
        RegionPool x = linked(3);
        is("three", x.copy(5, 0, 0), 3);
        is("the last one alone", x.copy(6, 2, 0), 1);
        is("the last two", x.copy(7, 1, 0), 2);
        is("the first part's field", x.field(0, 0, 1), 2);
        is("the second part's field", x.field(1, 0, 1), 4);
        is("the first copy's field", x.field(5, 0, 1), 18);
        is("the last copy's field", x.field(7, 0, 1), 26);
    }

    static void promise12ToTheLeastFreePage() {
        says("else at the beginning of the least free page, which comes to the end of the row then");
        RegionPool x = withRegions(3);
        x.make(0, 2, PLAIN, 1, 0);
        x.make(1, 1, PLAIN, 2, 1);
        x.put(1, 0, 1);
        x.close();
        is("copy(2, 1, 0)", x.copy(2, 1, 0), 1);
        is("its place", x.root(2, 1), 0);
        is("its field", x.field(2, 0, 1), 0);
        is("the part's field", x.field(1, 0, 1), 16);
    }

    static void promise12TheLastPlaceOfThePool() {
        says("page p the places 16 * p .. 16 * p + 15");
        for (int kind = 0; kind <= 2; kind++) {
            RegionPool x = withRegions(2);
            fillPages(x, 0, 38);
            x.make(2, 1, kind, 1, 15);
            x.put(2, 14, 2);
            is("copy(3, 2, 0)", x.copy(3, 2, 0), 1);
            is("it ends at place 639", x.root(3, 1), 624);
            is("its last field", x.field(3, 14, 1), 624);
            is("alike(2, 3)", x.alike(2, 3), true);
            is("no room for one more", x.copy(4, 2, 0), NONE);
        }
    }

    static void promise12OntoTheSameRoot() {
        says("Root to becomes a copy, in a region, of what root from is");
        RegionPool x = withRegions(2);
        x.make(0, 1, PLAIN, 1, 1);
        x.put(0, 0, 0);
        is("copy(0, 0, 0)", x.copy(0, 0, 0), 1);
        is("the copy", x.root(0, 1), 16);
        is("its field", x.field(0, 0, 1), 16);
        is("the part is not held any more", x.collect(1), 1);
        is("copy(0, 0, 0) again", x.copy(0, 0, 0), 0);
        is("itself", x.root(0, 1), 16);
    }

    static void promise12JustRoom() {
        says("There is room if all could be placed in r, in their order, as it is now.");
        RegionPool x = crowded();
        is("15 and 1 places, a page is free", x.copy(5, 0, 0), 2);
        is("the copy", x.root(5, 1), 39 * 16);
        is("the last place", x.field(5, 0, 1), 639);
        is("no page is free", x.count(1), 0);
        is("once more", x.copy(6, 0, 0), NONE);
        is("the root stays", x.root(6, 0), 0);
        is("one of 1 place", x.copy(6, 1, 0), NONE);
        is("count(7)", x.count(7), 2);
    }

    static void promise12RoomBehindTheLatestOne() {
        says("behind the latest one in the last page of its row, if n + 1 places are left in that");
        RegionPool x = withRegions(2);
        fillPages(x, 0, 38);
        x.make(2, 0, PLAIN, 1, 11);
        x.make(3, 1, PLAIN, 2, 1);
        x.make(4, 1, PLAIN, 3, 2);
        is("no page is free", x.count(1), 0);
        is("2 places, 4 are left", x.copy(5, 3, 0), 1);
        is("3 places, 2 are left", x.copy(6, 4, 0), NONE);
        is("2 places", x.copy(7, 3, 0), 1);
        is("its place", x.root(7, 1), 38 * 16 + 14);
        is("2 places, none is left", x.copy(8, 3, 0), NONE);
    }

    static void promise12NoneAndTheRootStays() {
        says("NONE if there is no room.");
        RegionPool x = withTooManyParts();
        x.number(5, 4);
        is("copy(5, 0, 0)", x.copy(5, 0, 0), NONE);
        is("a number", x.root(5, 1), 4);
        is("copy(0, 0, 0)", x.copy(0, 0, 0), NONE);
        is("a reference", x.root(0, 3), 100);
        changesNothing("copy without room", LiftBoundaryTest::withTooManyParts, y -> y.copy(5, 0, 0));
        is("one part has room", x.copy(5, 1, 0), 1);
        is("its place", x.root(5, 1), 39 * 16);
    }

    static void promise12NoSuchRoot() {
        says("Exceptions as lift().");
        RegionPool x = withRegions(1);
        for (int no : NO_ROOTS) {
            noRoot("to", () -> x.copy(no, 0, 0));
            noRoot("from", () -> x.copy(0, no, 0));
            noRoot("to, and no such region", () -> x.copy(no, 0, 1));
            noRoot("from, and no such region", () -> x.copy(0, no, 1));
            changesNothing("copy to " + no, Checks::busy, y -> y.copy(no, 3, 0));
            changesNothing("copy from " + no, Checks::busy, y -> y.copy(3, no, 0));
        }
    }

    static void promise12NoSuchRegion() {
        says("Exceptions as lift().");
        RegionPool x = withRegions(2);
        x.make(0, 1, PLAIN, 1, 0);
        for (int no : new int[] {-1, 2, 8, LEAST, MOST}) {
            badArgument("copy(1, 0, " + no + ")", () -> x.copy(1, 0, no));
            badArgument("of NIL", () -> x.copy(1, 1, no));
        }
        changesNothing("copy(5, 3, 3)", Checks::busy, y -> y.copy(5, 3, 3));
        changesNothing("copy(5, 3, -1)", Checks::busy, y -> y.copy(5, 3, -1));
    }
}
