/** Sentences ahead of the document's promises that the boundary tests do not quote, or not for all regions and kinds. */
public final class TermsTest extends Checks {
    public static void main(String[] args) {
        runTerms(TermsTest.class);
    }

    // ---- what it is

    static void termNeverToANewerRegion() {
        says("objects refer to one another, but never to a newer region");
        RegionPool x = withRegions(8);
        for (int r = 0; r < 8; r++) {
            x.make(r, r, PLAIN, r, 1);
        }
        for (int of = 0; of < 8; of++) {
            for (int to = 0; to < 8; to++) {
                is("from region " + of + " to " + to, x.put(of, 0, to), to > of ? REFUSED : 1);
            }
            is("it refers to the newest that it may", x.field(of, 0, 2), of);
        }
    }

    static void termWhatIsLiftedOutlivesItsRegion() {
        says("what has to outlive its region is lifted, or copied");
        RegionPool x = withRegions(2);
        for (int root = 0; root < 3; root++) {
            x.make(root, 1, PLAIN, 20 + root, 1);
        }
        x.lift(0, 0);
        x.copy(1, 1, 0);
        is("close()", x.close(), 1);
        is("the lifted one", x.root(0, 3), 20);
        is("the copied one", x.root(1, 3), 21);
        is("the other one", x.root(2, 0), 0);
        is("objects", x.count(2), 2);
    }

    static void termNothingBreaksBehindTheLastCall() {
        says("what later calls answer is free");
        RegionPool x = withRegions(8);
        for (int k = 0; k < 100000; k++) {
            x.make(k % 16, k % 8, k % 3, k % 1000, 1 + k % 15);
            if (x.root(k % 16, 0) == 2) {
                x.put(k % 16, k % 15, k % 16);
                x.watch(k % 16);
            }
            x.lift((k + 5) % 16, k % 5);
            x.copy((k + 1) % 16, (k + 7) % 16, k % 7);
            x.due(k % 11);
        }
        is("free pages are no fewer than 0", x.count(1) >= 0, true);
    }

    // ---- the pool and its regions

    static void termPagesAndPlaces() {
        says("THE POOL has PAGES 0 .. 39 of 16 PLACES");
        RegionPool x = withRegions(1);
        fillPages(x, 0, 40);
        is("pages", x.region(0, 0), 40);
        is("the last page", x.page(0, 39), 39);
        is("places that are taken", x.region(0, 2), 640);
        is("places that are not", x.region(0, 3), 0);
        is("one more place", x.make(1, 0, PLAIN, 0, 0), NONE);
        is("the first place", x.at(0), 0);
        is("the last page's object", x.at(624), 39);
        is("behind the last place", x.at(640), NONE);
    }

    static void termTheLatestIsTheNewest() {
        says("the latest one is the NEWEST; a region is NEWER than those with less numbers");
        RegionPool x = withRegions(3);
        for (int r = 0; r < 3; r++) {
            x.make(r, r, PLAIN, r, 0);
        }
        is("close()", x.close(), 1);
        is("region 2 is gone", x.root(2, 0), 0);
        is("region 1 stays", x.root(1, 5), 1);
        is("open()", x.open(), 2);
        x.make(2, 2, PLAIN, 5, 1);
        is("the newest refers to an older one", x.put(2, 0, 1), 1);
        x.make(1, 1, PLAIN, 6, 1);
        is("an older one does not refer to the newest", x.put(1, 0, 2), REFUSED);
    }

    static void termRegionsPutTheirPagesInARowOfTheirOwn() {
        says("Each has a ROW of pages, none at first.");
        RegionPool x = withRegions(2);
        for (int k = 0; k < 6; k++) {
            x.make(k, k % 2, PLAIN, k, 15);
        }
        for (int k = 0; k < 3; k++) {
            is("page(0, " + k + ")", x.page(0, k), 2 * k);
            is("page(1, " + k + ")", x.page(1, k), 2 * k + 1);
        }
        x.open();
        is("pages of a new one", x.region(2, 0), 0);
    }

    // ---- objects and values

    static void termKindTagAndFields() {
        says("AN OBJECT has a KIND, a TAG (0 .. 999) and n FIELDS (0 .. 15)");
        for (int kind = PLAIN; kind <= KEYED; kind++) {
            for (int fields = kind == KEYED ? 1 : 0; fields <= 15; fields++) {
                RegionPool x = withRegions(1);
                for (int tag : new int[] {0, 1, 511, 512, 998, 999}) {
                    x.make(0, 0, kind, tag, fields);
                    is("kind", x.root(0, 2), kind);
                    is("tag", x.root(0, 3), tag);
                    is("fields", x.root(0, 4), fields);
                    is("the tag at its place", x.at(x.root(0, 1)), tag);
                }
            }
        }
    }

    static void termItsPlaceIsTheFirst() {
        says("its PLACE is the first of them");
        RegionPool x = withRegions(1);
        for (int fields = 0; fields <= 4; fields++) {
            int place = x.make(0, 0, PLAIN, 100 + fields, fields);
            is("root(0, 1)", x.root(0, 1), place);
            is("at its place", x.at(place), 100 + fields);
            for (int i = 1; i <= fields; i++) {
                is("at its place + " + i, x.at(place + i), NONE);
            }
        }
    }

    static void termValues() {
        says("A VALUE is NIL, a number (an int), or a REFERENCE to an object.");
        RegionPool x = withRegions(1);
        x.make(0, 0, PLAIN, 9, 3);
        x.make(0, 0, PLAIN, 7, 3);
        for (int v : new int[] {0, 1, -1, 4, LEAST, MOST}) {
            x.number(1, v);
            x.put(0, 1, 1);
            is("a number's sort", x.field(0, 1, 0), 1);
            is("the number", x.field(0, 1, 1), v);
            x.get(2, 0, 1);
            is("the number that is got", x.root(2, 1), v);
        }
        x.put(0, 2, 0);
        is("a reference's sort", x.field(0, 2, 0), 2);
        is("its place", x.field(0, 2, 1), 4);
        x.put(0, 1, 3);
        is("NIL's sort", x.field(0, 1, 0), 0);
        is("NIL", x.field(0, 1, 1), 0);
    }

    static void termANumberHoldsNoObject() {
        says("those to which a root or the queue refers");
        RegionPool x = withRegions(1);
        x.make(0, 0, PLAIN, 1, 0);
        x.number(0, 0);
        is("a number like its place does not hold it", x.collect(0), 1);
        x.make(0, 0, PLAIN, 1, 0);
        x.make(1, 0, PLAIN, 2, 0);
        x.number(2, 1);
        x.clear(0);
        x.collect(0);
        is("nor does it follow", x.root(2, 1), 1);
    }

    static void termTheQueueIsFirstInFirstOut() {
        says("The QUEUE has references, one behind the other");
        RegionPool x = withRegions(1);
        for (int k = 0; k < 40; k++) {
            x.make(0, 0, PLAIN, k, 0);
            x.watch(0);
            if (k % 4 == 3) {
                x.clear(0);
                x.collect(0);
            }
        }
        for (int k = 0; k < 40; k++) {
            is("due()", x.due(1), 40 - k);
            is("tag of the next one", x.root(1, 3), k);
        }
        is("due() without one", x.due(1), 0);
    }

    // ---- to collect

    static void termOnlyOnesThatHaveBecomeLiveStillCan() {
        says("only ones that have become live by (3) still can");
        RegionPool x = withRegions(1);
        x.make(0, 0, WEAK, 1, 2);
        x.make(1, 0, PLAIN, 2, 1);
        x.make(2, 0, PLAIN, 3, 0);
        x.put(0, 0, 1);
        x.put(0, 1, 2);
        x.put(1, 0, 0);
        x.watch(1);
        x.watch(0);
        clearRoots(x, 0, 2);
        is("the one that is not watched is gone", x.collect(0), 1);
        x.due(1);
        is("the first one due", x.root(1, 3), 2);
        x.due(0);
        is("the second one due", x.root(0, 3), 1);
        is("its field to the first one is as it was", x.field(0, 0, 2), 2);
        is("its field to the one that is gone", x.field(0, 1, 0), 0);
    }

    static void termWhatIsNotLiveIsGone() {
        says("Young objects that are not live are GONE.");
        RegionPool x = withRegions(2);
        x.make(0, 0, PLAIN, 1, 0);
        x.make(0, 1, PLAIN, 2, 0);
        x.clear(0);
        is("from region 1 on", x.collect(1), 1);
        is("the older one is not young", x.at(0), 1);
        is("from region 0 on", x.collect(0), 1);
        is("nor is it there now", x.at(0), NONE);
        is("objects", x.count(2), 0);
    }

    static void termRingsAreNotLive() {
        says("(the least such set)");
        for (int kind = PLAIN; kind <= KEYED; kind++) {
            RegionPool x = withRegions(1);
            x.make(0, 0, kind, 1, 2);
            x.make(1, 0, kind, 2, 2);
            x.put(0, 1, 1);
            x.put(1, 1, 0);
            clearRoots(x, 0, 1);
            is("a ring of kind " + kind, x.collect(0), 2);
        }
    }

    // ---- to lift, and to copy

    static void termTheyArePlacedSo() {
        says("Then they are placed in r so");
        RegionPool x = withRegions(2);
        x.make(5, 0, PLAIN, 50, 8);
        x.make(0, 1, PLAIN, 1, 2);
        x.make(1, 1, PLAIN, 2, 4);
        x.make(2, 1, PLAIN, 3, 0);
        x.put(0, 0, 1);
        x.put(0, 1, 2);
        is("parts", x.lift(0, 0), 3);
        is("behind the latest one of the last page", x.root(0, 1), 9);
        is("in a new page, as five places are not left", x.root(1, 1), 32);
        is("behind that one, not where it would still fit", x.root(2, 1), 37);
        is("the row", x.page(0, 1), 2);
    }

    static void termCopiesArePlacedLikewise() {
        says("for each a new object with the same kind, tag, number of fields is placed in r");
        RegionPool x = withRegions(2);
        x.make(5, 0, PLAIN, 50, 8);
        x.make(0, 1, PLAIN, 1, 2);
        x.make(1, 1, WEAK, 2, 4);
        x.make(2, 1, PLAIN, 3, 0);
        x.put(0, 0, 1);
        x.put(0, 1, 2);
        is("parts", x.copy(3, 0, 0), 3);
        is("behind the latest one of the last page", x.root(3, 1), 9);
        is("in a new page, as five places are not left", x.field(3, 0, 1), 32);
        is("behind that one, not where it would still fit", x.field(3, 1, 1), 37);
        is("the part stays", x.root(0, 1), 16);
    }

    // ---- exceptions

    static void termTheFirstExceptionFirst() {
        says("Exceptions, the first one first");
        RegionPool x = withRegions(1);
        for (int no : NO_ROOTS) {
            noRoot("make: all is wrong", () -> x.make(no, 9, 3, -1, 16));
            noRoot("get: to, and from is NIL", () -> x.get(no, 0, 0));
            noRoot("get: from", () -> x.get(0, no, 0));
            noRoot("put: root", () -> x.put(no, 0, 0));
            noRoot("put: from, and root is NIL", () -> x.put(0, 0, no));
            noRoot("lift: root, and no such region", () -> x.lift(no, 9));
            noRoot("copy: to, and no such region", () -> x.copy(no, 0, 9));
            noRoot("copy: from, and no such region", () -> x.copy(0, no, 9));
            noRoot("root: no such what", () -> x.root(no, 9));
            noRoot("field: no such field, no such what", () -> x.field(no, 99, 9));
        }
        noReference("get: no such field", () -> x.get(1, 0, -1));
        noReference("put: no such field", () -> x.put(0, 99, 1));
        noReference("watch", () -> x.watch(0));
    }

    static void termTheConstants() {
        says("`REFUSED = -2`: The value refers to an object in a newer region.");
        is("NONE", RegionPool.NONE, -1);
        is("REFUSED", RegionPool.REFUSED, -2);
    }
}
