/** The boundary cases of promise 4, and of what is said of collecting: each sentence in a test of its own. */
public final class CollectBoundaryTest extends Checks {
    public static void main(String[] args) {
        runSentences(CollectBoundaryTest.class, 4);
    }

    // ---- from which region on

    static void promise04NoSuchRegion() {
        says("IllegalArgumentException: there is no such region.");
        RegionPool x = withRegions(2);
        for (int no : new int[] {-1, 2, 7, 8, LEAST, MOST}) {
            badArgument("collect(" + no + ")", () -> x.collect(no));
        }
        is("collect(1)", x.collect(1), 0);
        is("collect(0)", x.collect(0), 0);
        x.close();
        badArgument("of one that went", () -> x.collect(1));
        x.close();
        badArgument("without a region", () -> x.collect(0));
        RegionPool y = withRegions(8);
        is("the newest of eight", y.collect(7), 0);
        badArgument("one more", () -> y.collect(8));
    }

    static void promise04NoSuchRegionChangesNothing() {
        says("what throws, or answers NONE or REFUSED, changes nothing");
        changesNothing("collect(3)", Checks::busy, x -> x.collect(3));
        changesNothing("collect(-1)", Checks::busy, x -> x.collect(-1));
    }

    static void promise04OfNothing() {
        says("Collects from a region on: how many objects are gone.");
        RegionPool x = withRegions(1);
        is("without a page", x.collect(0), 0);
        is("it is a collection", x.count(3), 1);
        is("pages", x.region(0, 0), 0);
        x.make(0, 0, PLAIN, 1, 2);
        is("without one that is gone", x.collect(0), 0);
        is("pages", x.region(0, 0), 1);
    }

    static void promise04HowManyAreGone() {
        says("Collects from a region on: how many objects are gone.");
        RegionPool x = withRegions(3);
        for (int r = 0; r < 3; r++) {
            for (int k = 0; k <= r; k++) {
                x.make(0, r, PLAIN, k, 15);
            }
        }
        x.watch(0);
        x.clear(0);
        is("all of the newest but the one that is watched", x.collect(2), 2);
        is("those of the next one", x.collect(1), 2);
        x.due(1);
        x.clear(1);
        is("those of two regions", x.collect(0), 2);
        is("count(4)", x.count(4), 6);
    }

    static void promise04YoungAreTheRegionAndAllNewer() {
        says("r and all newer regions are YOUNG");
        for (int r = 0; r < 8; r++) {
            RegionPool x = withRegions(8);
            for (int k = 0; k < 8; k++) {
                x.make(0, k, PLAIN, k, 0);
            }
            x.clear(0);
            is("collect(" + r + ")", x.collect(r), 8 - r);
            for (int k = 0; k < 8; k++) {
                is("objects of region " + k, x.region(k, 1), k < r ? 1 : 0);
            }
        }
    }

    // ---- (1)

    static void promise04ObjectsOfOtherRegionsAreLive() {
        says("LIVE are all objects of the other regions");
        RegionPool x = withRegions(2);
        x.make(0, 0, PLAIN, 1, 0);
        x.make(1, 0, WEAK, 2, 1);
        x.put(1, 0, 0);
        x.make(2, 1, WEAK, 3, 1);
        x.put(2, 0, 0);
        clearRoots(x, 0, 0);
        is("collect(1)", x.collect(1), 0);
        is("it is there", x.at(0), 1);
        is("an older weak one keeps it", x.field(1, 0, 2), 1);
        is("a young weak one keeps it", x.field(2, 0, 2), 1);
    }

    static void promise04RootsHold() {
        says("those to which a root or the queue refers");
        RegionPool x = withRegions(1);
        for (int root = 0; root < 16; root++) {
            x.make(root, 0, PLAIN, root, 0);
        }
        is("sixteen roots", x.collect(0), 0);
        x.clear(15);
        is("without the last one", x.collect(0), 1);
        x.clear(0);
        is("without the first one", x.collect(0), 1);
        x.number(1, x.root(2, 1));
        is("a number does not hold", x.collect(0), 1);
        is("what a root refers to is there", x.root(2, 3), 2);
    }

    static void promise04TheQueueHolds() {
        says("those to which a root or the queue refers");
        RegionPool x = withRegions(1);
        for (int k = 0; k < 3; k++) {
            x.make(0, 0, PLAIN, k, 0);
            x.watch(0);
        }
        x.clear(0);
        x.collect(0);
        is("three in the queue", x.collect(0), 0);
        x.due(0);
        x.clear(0);
        is("two in the queue", x.collect(0), 1);
        x.due(0);
        x.due(0);
        is("none in the queue", x.collect(0), 1);
    }

    static void promise04PlainFieldsHold() {
        says("0 PLAIN: each field holds.");
        RegionPool x = withRegions(1);
        x.make(0, 0, PLAIN, 1, 15);
        for (int i = 0; i < 15; i++) {
            x.make(1, 0, PLAIN, 100 + i, 0);
            x.put(0, i, 1);
        }
        x.clear(1);
        is("fifteen fields", x.collect(0), 0);
        for (int i = 0; i < 15; i++) {
            is("field " + i, x.field(0, i, 2), 100 + i);
        }
        x.put(0, 14, 1);
        is("without the last one", x.collect(0), 1);
        x.put(0, 0, 1);
        is("without the first one", x.collect(0), 1);
    }

    static void promise04WeakFieldsDoNot() {
        says("1 WEAK: none does.");
        RegionPool x = withRegions(1);
        x.make(0, 0, WEAK, 1, 15);
        for (int i = 0; i < 15; i++) {
            x.make(1, 0, PLAIN, 100 + i, 0);
            x.put(0, i, 1);
        }
        x.clear(1);
        is("fifteen fields", x.collect(0), 15);
        for (int i = 0; i < 15; i++) {
            is("field " + i, x.field(0, i, 0), 0);
        }
    }

    static void promise04AKeyDoesNotHold() {
        says("field 0 is its KEY, which does not hold");
        RegionPool x = withRegions(1);
        x.make(0, 0, KEYED, 1, 1);
        x.make(1, 0, PLAIN, 2, 0);
        x.put(0, 0, 1);
        x.clear(1);
        is("collect(0)", x.collect(0), 1);
        is("the key", x.field(0, 0, 0), 0);
    }

    static void promise04AKeyThatIsNilLetsHold() {
        says("the others do if the key is NIL, a number, or LIVE");
        is("NIL", goneBehindKey(x -> { }), 0);
        is("0", goneBehindKey(x -> putKey(x, 0)), 0);
        is("a number like a place", goneBehindKey(x -> putKey(x, 20)), 0);
        is("-1", goneBehindKey(x -> putKey(x, -1)), 0);
    }

    static void promise04AKeyThatIsLiveLetsHold() {
        says("the others do if the key is NIL, a number, or LIVE");
        is("one that a root holds", goneBehindKey(x -> makeKey(x, 1)), 0);
        is("one of an older region", goneBehindKey(x -> {
            makeKey(x, 0);
            x.clear(8);
        }), 0);
        is("itself", goneBehindKey(x -> x.put(0, 0, 0)), 0);
        is("one that is not live", goneBehindKey(x -> {
            makeKey(x, 1);
            x.clear(8);
        }), 15);
    }

    private static void putKey(RegionPool x, int key) {
        x.number(8, key);
        x.put(0, 0, 8);
    }

    private static void makeKey(RegionPool x, int region) {
        x.make(8, region, PLAIN, 80, 0);
        x.put(0, 0, 8);
    }

    // Root 0 is keyed, and alone refers to 14 objects; what is used sets its key.
    private static int goneBehindKey(Use use) {
        RegionPool x = withRegions(2);
        x.make(0, 1, KEYED, 1, 15);
        for (int i = 1; i < 15; i++) {
            x.make(1, 1, PLAIN, i, 0);
            x.put(0, i, 1);
        }
        x.clear(1);
        use.on(x);
        return x.collect(1);
    }

    static void promise04TheLeastSet() {
        says("the least such set");
        RegionPool x = withRegions(1);
        x.make(0, 0, PLAIN, 1, 1);
        x.make(1, 0, PLAIN, 2, 1);
        x.put(0, 0, 1);
        x.put(1, 0, 0);
        x.make(2, 0, KEYED, 3, 2);
        x.make(3, 0, PLAIN, 4, 0);
        x.put(2, 0, 3);
        x.put(2, 1, 3);
        x.make(4, 0, PLAIN, 5, 1);
        x.put(4, 0, 4);
        x.clear(0);
        x.clear(1);
        x.clear(3);
        x.clear(4);
        is("a ring of two, a ring of one, and a key behind itself", x.collect(0), 4);
        is("the keyed one is there", x.root(2, 3), 3);
        is("its value is not", x.field(2, 1, 0), 0);
    }

    static void promise04KeysThatAreFoundLiveLater() {
        says("those to which a field that holds of a live one refers (the least such set)");
        for (int turn = 0; turn < 2; turn++) {
            RegionPool x = withRegions(1);
            for (int k = 0; k < 8; k++) {
                x.make(k, 0, KEYED, k, 2);
            }
            x.make(8, 0, PLAIN, 8, 0);
            x.make(15, 0, PLAIN, 9, 8);
            for (int k = 0; k < 8; k++) {
                x.put(15, k, k);
            }
            keyChain(x, turn == 0);
            clearRoots(x, 0, 7);
            is("while the first key is live", x.collect(0), 0);
            x.clear(8);
            is("without it", x.collect(0), 9);
        }
    }

    // Each of 8 keyed ones has the value of the one before it for a key, forwards or backwards.
    private static void keyChain(RegionPool x, boolean forwards) {
        x.move(9, 8);
        for (int n = 0; n < 8; n++) {
            int k = forwards ? n : 7 - n;
            x.put(k, 0, 9);
            x.make(9, 0, PLAIN, 20 + n, 0);
            x.put(k, 1, 9);
        }
        x.clear(9);
    }

    static void promise04WhatIsBehindAKeyHoldsFurther() {
        says("those to which a field that holds of a live one refers (the least such set)");
        RegionPool x = withRegions(1);
        x.make(0, 0, WEAK, 0, 4);
        x.make(15, 0, PLAIN, 1, 4);
        x.make(8, 0, PLAIN, 2, 0);
        x.move(9, 8);
        for (int k = 0; k < 4; k++) {
            x.make(1, 0, KEYED, 10 + k, 2);
            x.make(2, 0, PLAIN, 20 + k, 1);
            x.make(3, 0, PLAIN, 30 + k, 0);
            x.put(15, k, 1);
            x.put(1, 0, 9);
            x.put(1, 1, 2);
            x.put(2, 0, 3);
            x.put(0, k, 3);
            x.move(9, 3);
        }
        clearRoots(x, 1, 3);
        x.clear(9);
        is("each key is held behind the one before it", x.collect(0), 0);
        for (int k = 0; k < 4; k++) {
            is("a weak one keeps key " + k, x.field(0, k, 2), 30 + k);
        }
        x.clear(8);
        is("without the first key", x.collect(0), 9);
    }

    static void promise04AKeyInANewerRegionCantBe() {
        says("An object refers to objects of its own region and of those that are not newer, alone.");
        RegionPool x = withRegions(2);
        x.make(0, 0, KEYED, 1, 2);
        x.make(1, 1, PLAIN, 2, 0);
        is("put of a newer key", x.put(0, 0, 1), REFUSED);
        x.clear(1);
        is("collect(1)", x.collect(1), 1);
        is("the key is NIL as before", x.field(0, 0, 0), 0);
    }

    // ---- (2)

    static void promise04WeakFieldsToDeadOnesBecomeNil() {
        says("The fields of live WEAK young objects that refer to one that is not live become NIL.");
        RegionPool x = withRegions(1);
        x.make(0, 0, WEAK, 1, 5);
        x.make(1, 0, PLAIN, 2, 0);
        x.make(2, 0, PLAIN, 3, 0);
        x.number(3, 2);
        x.put(0, 0, 1);
        x.put(0, 1, 3);
        x.put(0, 2, 2);
        x.put(0, 4, 1);
        x.clear(1);
        x.collect(0);
        is("the first", x.field(0, 0, 0), 0);
        is("its content", x.field(0, 0, 1), 0);
        is("a number stays", x.field(0, 1, 1), 2);
        is("a live one stays", x.field(0, 2, 2), 3);
        is("NIL stays", x.field(0, 3, 0), 0);
        is("the last", x.field(0, 4, 0), 0);
    }

    static void promise04WeakFieldsLoseWhatIsQueuedNow() {
        says("The fields of live WEAK young objects that refer to one that is not live become NIL.");
        RegionPool x = withRegions(1);
        x.make(0, 0, WEAK, 1, 1);
        x.make(1, 0, PLAIN, 2, 0);
        x.put(0, 0, 1);
        x.watch(1);
        x.clear(1);
        is("collect(0)", x.collect(0), 0);
        is("the queue", x.count(9), 1);
        is("the field, ahead of that", x.field(0, 0, 0), 0);
    }

    static void promise04WeakFieldsKeepWhatWasQueued() {
        says("those to which a root or the queue refers");
        RegionPool x = withRegions(1);
        x.make(0, 0, WEAK, 1, 1);
        x.make(1, 0, PLAIN, 2, 1);
        x.make(2, 0, PLAIN, 3, 0);
        x.put(1, 0, 2);
        x.watch(1);
        x.clear(1);
        x.collect(0);
        x.put(0, 0, 2);
        x.clear(2);
        is("collect(0)", x.collect(0), 0);
        is("what the queue's one holds", x.field(0, 0, 2), 3);
    }

    // ---- (3)

    static void promise04WatchedOnesComeToTheEndOfTheQueue() {
        says("come to the end of the queue, in their order");
        RegionPool x = withRegions(1);
        for (int k = 0; k < 4; k++) {
            x.make(k, 0, PLAIN, k, 0);
        }
        x.watch(2);
        x.clear(2);
        x.collect(0);
        x.watch(3);
        x.watch(0);
        x.watch(1);
        clearRoots(x, 0, 3);
        is("collect(0)", x.collect(0), 0);
        int[] due = {2, 3, 0, 1};
        for (int k = 0; k < 4; k++) {
            is("due(5)", x.due(5), 4 - k);
            is("number " + k + " of the queue", x.root(5, 3), due[k]);
        }
        is("due(5)", x.due(5), 0);
    }

    static void promise04TheyAreNoLongerWatched() {
        says("All watched young objects that are not live are no longer watched");
        RegionPool x = withRegions(1);
        x.make(0, 0, PLAIN, 1, 0);
        x.watch(0);
        x.clear(0);
        x.collect(0);
        is("count(8)", x.count(8), 0);
        x.due(0);
        is("root(0, 6)", x.root(0, 6), 0);
        x.clear(0);
        is("gone the second time", x.collect(0), 1);
        is("the queue", x.count(9), 0);
    }

    static void promise04LiveOnesStayWatched() {
        says("All watched young objects that are not live are no longer watched");
        RegionPool x = withRegions(1);
        x.make(0, 0, PLAIN, 1, 0);
        x.make(1, 0, PLAIN, 2, 0);
        x.make(2, 0, PLAIN, 3, 0);
        x.watch(0);
        x.watch(1);
        x.watch(2);
        x.clear(1);
        x.collect(0);
        is("count(8)", x.count(8), 2);
        is("the queue", x.count(9), 1);
        is("the first", x.root(0, 6), 1);
        is("the last", x.root(2, 6), 1);
    }

    static void promise04OlderOnesStayWatched() {
        says("All watched young objects that are not live are no longer watched");
        RegionPool x = withRegions(2);
        x.make(0, 0, PLAIN, 1, 0);
        x.watch(0);
        x.clear(0);
        x.collect(1);
        is("count(8)", x.count(8), 1);
        is("the queue", x.count(9), 0);
        x.collect(0);
        is("count(8) when it is young", x.count(8), 0);
        is("the queue then", x.count(9), 1);
    }

    static void promise04OneThatAWatchedOneHoldsComesToo() {
        says("All watched young objects that are not live are no longer watched");
        RegionPool x = withRegions(1);
        x.make(0, 0, PLAIN, 1, 1);
        x.make(1, 0, PLAIN, 2, 0);
        x.put(0, 0, 1);
        x.watch(0);
        x.watch(1);
        clearRoots(x, 0, 1);
        x.collect(0);
        is("both", x.count(9), 2);
        is("watched", x.count(8), 0);
    }

    static void promise04OneThatAQueuedOneHoldsStays() {
        says("those to which a field that holds of a live one refers");
        RegionPool x = withRegions(1);
        x.make(0, 0, PLAIN, 1, 1);
        x.make(1, 0, PLAIN, 2, 0);
        x.put(0, 0, 1);
        x.watch(0);
        x.clear(0);
        x.collect(0);
        x.watch(1);
        x.clear(1);
        x.collect(0);
        is("the queue", x.count(9), 1);
        is("watched", x.count(8), 1);
    }

    static void promise04WhatTheyHoldIsLive() {
        says("then LIVE is found again (they are, and what they hold, ..)");
        RegionPool x = withRegions(1);
        x.make(0, 0, PLAIN, 1, 1);
        x.make(1, 0, KEYED, 2, 2);
        x.make(2, 0, PLAIN, 3, 0);
        x.make(3, 0, PLAIN, 4, 0);
        x.put(0, 0, 1);
        x.put(1, 1, 2);
        x.watch(0);
        clearRoots(x, 0, 3);
        is("all but one that nothing holds", x.collect(0), 1);
        x.due(0);
        x.get(1, 0, 0);
        is("behind the second one", x.field(1, 1, 2), 3);
    }

    // ---- (4)

    static void promise04KeyedFieldsBecomeNil() {
        says("All fields of live KEYED young objects, of which the key refers to one that is not live, become NIL");
        RegionPool x = withRegions(1);
        x.make(0, 0, KEYED, 1, 15);
        x.make(1, 0, PLAIN, 2, 0);
        x.make(2, 0, PLAIN, 3, 0);
        x.number(3, 7);
        x.put(0, 0, 1);
        x.put(0, 1, 2);
        x.put(0, 14, 3);
        x.clear(1);
        is("only the key is gone", x.collect(0), 1);
        for (int i = 0; i < 15; i++) {
            is("sort of field " + i, x.field(0, i, 0), 0);
            is("content of field " + i, x.field(0, i, 1), 0);
        }
        is("what a field referred to, and a root does", x.root(2, 3), 3);
    }

    static void promise04KeyedFieldsStayWithALiveKey() {
        says("of which the key refers to one that is not live, become NIL");
        RegionPool x = withRegions(1);
        x.make(0, 0, KEYED, 1, 2);
        x.make(1, 0, PLAIN, 2, 0);
        x.number(2, 7);
        x.put(0, 0, 1);
        x.put(0, 1, 2);
        x.collect(0);
        is("the key", x.field(0, 0, 2), 2);
        is("a number behind it", x.field(0, 1, 1), 7);
        x.put(0, 0, 2);
        x.collect(0);
        is("a key that is a number", x.field(0, 0, 1), 7);
        is("a number behind that", x.field(0, 1, 1), 7);
    }

    static void promise04KeyedFieldsStayIfTheKeyIsQueuedNow() {
        says("All fields of live KEYED young objects, of which the key refers to one that is not live, become NIL");
        RegionPool x = withRegions(1);
        x.make(0, 0, KEYED, 1, 2);
        x.make(1, 0, PLAIN, 2, 0);
        x.make(2, 0, PLAIN, 3, 0);
        x.put(0, 0, 1);
        x.put(0, 1, 2);
        x.watch(1);
        clearRoots(x, 1, 2);
        is("collect(0)", x.collect(0), 0);
        is("the key", x.field(0, 0, 2), 2);
        is("what is behind it", x.field(0, 1, 2), 3);
    }

    static void promise04KeyedFieldsStayIfAQueuedOneHoldsTheKey() {
        says("then LIVE is found again (they are, and what they hold, ..)");
        RegionPool x = withRegions(1);
        x.make(0, 0, KEYED, 1, 2);
        x.make(1, 0, PLAIN, 2, 0);
        x.make(2, 0, PLAIN, 3, 1);
        x.number(3, 9);
        x.put(0, 0, 1);
        x.put(0, 1, 3);
        x.put(2, 0, 1);
        x.watch(2);
        clearRoots(x, 1, 2);
        is("collect(0)", x.collect(0), 0);
        is("the key", x.field(0, 0, 2), 2);
        is("a number behind it", x.field(0, 1, 1), 9);
    }

    static void promise04KeyedOnesThatBecameLiveLoseTheirs() {
        says("All fields of live KEYED young objects, of which the key refers to one that is not live, become NIL");
        RegionPool x = withRegions(1);
        x.make(0, 0, KEYED, 1, 2);
        x.make(1, 0, PLAIN, 2, 0);
        x.number(2, 5);
        x.put(0, 0, 1);
        x.put(0, 1, 2);
        x.watch(0);
        clearRoots(x, 0, 1);
        is("the key is gone", x.collect(0), 1);
        x.due(0);
        is("field 0", x.field(0, 0, 0), 0);
        is("field 1", x.field(0, 1, 0), 0);
    }

    static void promise04KeyedOnesThatAQueuedOneHoldsLoseTheirs() {
        says("All fields of live KEYED young objects, of which the key refers to one that is not live, become NIL");
        RegionPool x = withRegions(1);
        x.make(0, 0, PLAIN, 1, 1);
        x.make(1, 0, KEYED, 2, 2);
        x.make(2, 0, PLAIN, 3, 0);
        x.number(3, 5);
        x.put(0, 0, 1);
        x.put(1, 0, 2);
        x.put(1, 1, 3);
        x.watch(0);
        clearRoots(x, 0, 2);
        is("the key is gone", x.collect(0), 1);
        x.due(0);
        x.get(1, 0, 0);
        is("the keyed one is there", x.root(1, 3), 2);
        is("field 0", x.field(1, 0, 0), 0);
        is("field 1", x.field(1, 1, 0), 0);
    }

    static void promise04WeakOnesThatBecameLiveLoseTheirs() {
        says("those of live WEAK young ones, too, that refer to one that is not live");
        RegionPool x = withRegions(1);
        x.make(0, 0, WEAK, 1, 3);
        x.make(1, 0, PLAIN, 2, 0);
        x.make(2, 0, PLAIN, 3, 0);
        x.put(0, 0, 1);
        x.put(0, 1, 2);
        x.put(0, 2, 0);
        x.watch(0);
        x.watch(2);
        clearRoots(x, 0, 2);
        is("one is gone", x.collect(0), 1);
        x.due(0);
        is("the field to it", x.field(0, 0, 0), 0);
        is("the field to one that became live, too", x.field(0, 1, 2), 3);
        is("the field to itself", x.field(0, 2, 2), 1);
    }

    // ---- (5)

    static void promise04TheFirstOneSlidesToTheBeginning() {
        says("the first one to the beginning of the row's first page");
        RegionPool x = withRegions(1);
        for (int k = 0; k < 3; k++) {
            x.make(0, 0, PLAIN, k, 15);
        }
        is("it was on the third page", x.root(0, 1), 32);
        is("collect(0)", x.collect(0), 2);
        is("its place", x.root(0, 1), 0);
        is("at(0)", x.at(0), 2);
        is("at(32)", x.at(32), NONE);
        is("page(0, 0)", x.page(0, 0), 0);
    }

    static void promise04OneThatJustFitsSlidesBehind() {
        says("each other one behind the one before, if places enough are left in that page");
        RegionPool x = slid(9);
        is("the first", x.root(1, 1), 0);
        is("one of ten places, ten are left", x.root(2, 1), 6);
        is("the next one", x.root(3, 1), 16);
    }

    static void promise04OneThatDoesNotFitGoesToTheNextPage() {
        says("else to the beginning of the row's next page");
        RegionPool x = slid(10);
        is("the first", x.root(1, 1), 0);
        is("one of eleven places, ten are left", x.root(2, 1), 16);
        is("a small one behind it", x.root(3, 1), 27);
        is("pages", x.region(0, 0), 2);
        is("only the first one moved", x.count(5), 1);
    }

    // One of 10 places is gone; behind it were one of 6, then one with so many fields, then one of 1 place.
    private static RegionPool slid(int fields) {
        RegionPool x = withRegions(1);
        x.make(0, 0, PLAIN, 0, 9);
        x.make(1, 0, PLAIN, 1, 5);
        x.make(2, 0, PLAIN, 2, fields);
        x.make(3, 0, PLAIN, 3, 0);
        x.clear(0);
        is("collect(0)", x.collect(0), 1);
        return x;
    }

    static void promise04PageByPageOfTheRow() {
        says("page by page of its row, in each page from its beginning on, in their order");
        RegionPool x = withRegions(2);
        x.make(0, 1, PLAIN, 1, 15);
        x.make(1, 0, PLAIN, 2, 0);
        x.make(2, 0, PLAIN, 3, 7);
        x.close();
        x.make(3, 0, PLAIN, 4, 8);
        x.make(4, 0, PLAIN, 5, 0);
        is("the row's first page", x.page(0, 0), 1);
        is("the row's second page", x.page(0, 1), 0);
        is("the second page's first object", x.root(3, 1), 0);
        x.clear(2);
        is("collect(0)", x.collect(0), 1);
        int[] due = {16, 17, 26};
        is("the first", x.root(1, 1), due[0]);
        is("from page 0 to page 1", x.root(3, 1), due[1]);
        is("the last", x.root(4, 1), due[2]);
        is("pages", x.region(0, 0), 1);
        is("the page that is left", x.page(0, 0), 1);
        is("at(0)", x.at(0), NONE);
    }

    static void promise04PagesBehindTheLastObjectAreFree() {
        says("Pages of the row behind the last one that has an object are free then.");
        RegionPool x = withRegions(2);
        x.make(0, 0, PLAIN, 0, 15);
        x.make(1, 1, PLAIN, 1, 0);
        x.make(2, 0, PLAIN, 2, 15);
        x.make(3, 0, PLAIN, 3, 15);
        x.clear(0);
        x.collect(0);
        is("two are left", x.region(0, 0), 2);
        is("count(1)", x.count(1), 37);
        is("page(0, 1)", x.page(0, 1), 2);
        is("page(0, 2)", x.page(0, 2), NONE);
        x.clear(2);
        x.clear(3);
        x.collect(0);
        is("none is left", x.region(0, 0), 0);
        is("count(1)", x.count(1), 39);
        is("the newer one's page stays", x.page(1, 0), 1);
        is("the least free page next", x.make(0, 0, PLAIN, 4, 0), 0);
        is("the next one", x.make(0, 1, PLAIN, 5, 15), 32);
    }

    static void promise04AllFortyPagesAreFree() {
        says("Pages of the row behind the last one that has an object are free then.");
        RegionPool x = withRegions(1);
        fillPages(x, 0, 40);
        is("none is gone", x.collect(0), 0);
        is("count(1)", x.count(1), 0);
        x.clear(0);
        is("all are gone", x.collect(0), 40);
        is("count(1)", x.count(1), 40);
        is("pages", x.region(0, 0), 0);
        is("none has moved", x.count(5), 0);
    }

    static void promise04RootsFollow() {
        says("All references follow.");
        RegionPool x = withRegions(1);
        x.make(0, 0, PLAIN, 1, 1);
        x.make(0, 0, PLAIN, 2, 0);
        x.move(15, 0);
        x.number(1, 2);
        x.collect(0);
        is("root 0", x.root(0, 1), 0);
        is("root 15", x.root(15, 1), 0);
        is("a number does not", x.root(1, 1), 2);
    }

    static void promise04FieldsFollow() {
        says("All references follow.");
        RegionPool x = withRegions(2);
        x.make(0, 0, PLAIN, 1, 1);
        x.make(0, 0, PLAIN, 2, 3);
        x.make(1, 0, WEAK, 3, 1);
        x.make(2, 1, KEYED, 4, 2);
        x.number(3, 2);
        x.put(0, 0, 0);
        x.put(0, 1, 3);
        x.put(0, 2, 1);
        x.put(1, 0, 0);
        x.put(2, 0, 0);
        x.put(2, 1, 1);
        is("collect(0)", x.collect(0), 1);
        is("to itself", x.field(0, 0, 1), 0);
        is("a number does not", x.field(0, 1, 1), 2);
        is("to one behind", x.field(0, 2, 1), 4);
        is("of a weak one", x.field(1, 0, 1), 0);
        is("the key of a newer one", x.field(2, 0, 1), 0);
        is("another field of it", x.field(2, 1, 1), 4);
    }

    static void promise04NewerFieldsToOlderOnesFollow() {
        says("All references follow.");
        RegionPool x = withRegions(2);
        x.make(0, 0, PLAIN, 1, 0);
        x.make(1, 1, PLAIN, 2, 3);
        x.make(1, 1, PLAIN, 3, 1);
        x.put(1, 0, 0);
        is("collect(1)", x.collect(1), 1);
        is("a field to one that did not move", x.field(1, 0, 1), 0);
        is("its own object did", x.root(1, 1), 16);
    }

    static void promise04TheQueueFollows() {
        says("All references follow.");
        RegionPool x = withRegions(1);
        x.make(0, 0, PLAIN, 1, 4);
        x.make(1, 0, PLAIN, 2, 0);
        x.make(2, 0, PLAIN, 3, 0);
        x.watch(2);
        x.watch(1);
        clearRoots(x, 1, 2);
        x.collect(0);
        x.clear(0);
        x.collect(0);
        x.due(3);
        is("the first", x.root(3, 1), 1);
        is("is the one that was watched first", x.root(3, 3), 3);
        x.due(3);
        is("the second", x.root(3, 1), 0);
    }

    static void promise04WatchedOnesFollow() {
        says("All references follow.");
        RegionPool x = withRegions(1);
        x.make(0, 0, PLAIN, 1, 0);
        x.make(1, 0, PLAIN, 2, 0);
        x.make(2, 0, PLAIN, 3, 0);
        x.watch(1);
        x.clear(0);
        x.collect(0);
        is("the watched one", x.root(1, 6), 1);
        is("the one behind it, at its old place", x.root(2, 6), 0);
        is("watch(1)", x.watch(1), false);
    }

    static void promise04ReferencesFollowEachTime() {
        says("All references follow.");
        RegionPool x = withRegions(2);
        x.make(0, 1, PLAIN, 1, 1);
        x.lift(0, 0);
        x.make(1, 1, PLAIN, 2, 1);
        x.put(1, 0, 1);
        x.collect(1);
        is("slid to where one was lifted from", x.root(1, 1), 0);
        x.collect(1);
        is("it stays there", x.root(1, 1), 0);
        is("its field", x.field(1, 0, 1), 0);
        x.collect(0);
        is("it stays there", x.root(1, 1), 0);
        is("the one that was lifted", x.root(0, 1), 16);
    }

    static void promise04TheLastPlaceOfThePool() {
        says("page p the places 16 * p .. 16 * p + 15");
        for (int kind = 0; kind <= 2; kind++) {
            RegionPool x = withRegions(1);
            fillPages(x, 0, 39);
            x.make(2, 0, kind, 1, 6);
            x.make(3, 0, kind, 2, 8);
            x.put(3, 7, 3);
            x.put(3, 0, 2);
            is("it ends at place 639", x.root(3, 1), 631);
            x.clear(2);
            is("collect(0)", x.collect(0), kind == PLAIN ? 0 : 1);
            is("its place", x.root(3, 1), kind == PLAIN ? 631 : 624);
            is("its last field", x.field(3, 7, 0), kind == KEYED ? 0 : 2);
            is("its first field", x.field(3, 0, 0), kind == PLAIN ? 2 : 0);
        }
    }

    static void promise04OlderRegionsDoNotSlide() {
        says("In each young region the others SLIDE");
        RegionPool x = withRegions(2);
        x.make(0, 0, PLAIN, 1, 0);
        x.make(0, 0, PLAIN, 2, 0);
        x.make(1, 1, PLAIN, 3, 0);
        x.make(1, 1, PLAIN, 4, 0);
        x.collect(1);
        is("one of the older", x.root(0, 1), 1);
        is("one of the young", x.root(1, 1), 16);
        is("count(5)", x.count(5), 1);
    }

    static void promise04LiftedPlacesAreUsedAgain() {
        says("these places are not used again until the region is collected, or goes");
        RegionPool x = withRegions(2);
        x.make(0, 1, PLAIN, 1, 3);
        x.make(1, 1, PLAIN, 2, 0);
        x.make(2, 1, PLAIN, 3, 10);
        x.lift(0, 0);
        x.lift(2, 0);
        is("before", x.root(1, 1), 4);
        is("collect(1)", x.collect(1), 0);
        is("behind", x.root(1, 1), 0);
        is("the next one", x.make(3, 1, PLAIN, 4, 0), 1);
    }

    static void promise04TheNextObjectComesBehindTheLast() {
        says("behind the latest one in the last page of its row, if n + 1 places are left in that");
        RegionPool x = withRegions(1);
        x.make(0, 0, PLAIN, 1, 0);
        x.make(1, 0, PLAIN, 2, 7);
        x.make(2, 0, PLAIN, 3, 7);
        x.clear(0);
        x.collect(0);
        is("two of 8 places fill the page", x.region(0, 3), 0);
        is("the next one begins a page", x.make(3, 0, PLAIN, 4, 0), 16);
        x.clear(1);
        x.collect(0);
        is("the next one is behind the last", x.make(4, 0, PLAIN, 5, 0), 9);
    }

    static void promise04OnlyThoseThatMoveAreCounted() {
        says("5 objects that came to another place by these");
        RegionPool x = withRegions(2);
        x.make(0, 0, PLAIN, 1, 0);
        x.make(1, 0, PLAIN, 2, 0);
        x.make(2, 0, PLAIN, 3, 0);
        x.clear(1);
        x.collect(0);
        is("one of two", x.count(5), 1);
        x.collect(0);
        is("none", x.count(5), 1);
        x.clear(0);
        x.collect(0);
        is("the same one again", x.count(5), 2);
        x.make(3, 1, PLAIN, 4, 0);
        x.lift(3, 0);
        is("a lift is no collection", x.count(5), 2);
    }
}
