/** The boundary cases of promise 8, and of what is said of placing: each sentence in a test of its own. */
public final class MakeBoundaryTest extends Checks {
    public static void main(String[] args) {
        runSentences(MakeBoundaryTest.class, 8);
    }

    // ---- where an object is placed

    static void promise08TakesOnePlaceMoreThanFields() {
        says("takes n + 1 places of one page, one behind the other");
        for (int fields = 0; fields <= 15; fields++) {
            RegionPool x = withRegions(1);
            is("the first one", x.make(0, 0, PLAIN, 1, fields), 0);
            is("places it takes", x.region(0, 2), fields + 1);
            is("places it does not take", x.region(0, 3), 15 - fields);
            is("the second one", x.make(0, 0, PLAIN, 1, 0), fields + 1);
        }
    }

    static void promise08JustEnoughPlacesLeft() {
        says("behind the latest one in the last page of its row, if n + 1 places are left in that");
        for (int fields = 0; fields < 15; fields++) {
            RegionPool x = withRegions(1);
            x.make(0, 0, PLAIN, 1, fields);
            is("just enough", x.make(1, 0, PLAIN, 2, 14 - fields), fields + 1);
            RegionPool y = withRegions(1);
            y.make(0, 0, PLAIN, 1, fields);
            is("one too few", y.make(1, 0, PLAIN, 2, 15 - fields), 16);
            is("pages", y.region(0, 0), 2);
        }
    }

    static void promise08OnlyInTheLastPage() {
        says("behind the latest one in the last page of its row");
        RegionPool x = withRegions(1);
        x.make(0, 0, PLAIN, 1, 0);
        x.make(1, 0, PLAIN, 2, 15);
        is("there is room in the first page alone", x.make(2, 0, PLAIN, 3, 0), 32);
    }

    static void promise08EachRegionHasPagesOfItsOwn() {
        says("else at the beginning of the least free page, which comes to the end of the row then");
        RegionPool x = withRegions(8);
        for (int r = 7; r >= 0; r--) {
            is("the first one of region " + r, x.make(0, r, PLAIN, r, 0), 16 * (7 - r));
        }
        for (int r = 0; r < 8; r++) {
            is("the second one of region " + r, x.make(0, r, PLAIN, r, 0), 16 * (7 - r) + 1);
        }
    }

    static void promise08TheLeastFreePage() {
        says("else at the beginning of the least free page, which comes to the end of the row then");
        RegionPool x = withRegions(2);
        x.make(0, 1, PLAIN, 0, 15);
        x.make(1, 0, PLAIN, 1, 15);
        x.make(0, 1, PLAIN, 2, 15);
        x.close();
        is("page 0", x.make(2, 0, PLAIN, 3, 0), 0);
        is("behind it", x.make(3, 0, PLAIN, 4, 14), 1);
        is("page 2", x.make(4, 0, PLAIN, 5, 0), 32);
        int[] row = {1, 0, 2};
        for (int k = 0; k < 3; k++) {
            is("page(0, " + k + ")", x.page(0, k), row[k]);
        }
    }

    static void promise08TheLastPlaceOfThePool() {
        says("Without a free page there is no room.");
        RegionPool x = withRegions(2);
        fillPages(x, 0, 39);
        x.move(2, 0);
        is("the last page", x.make(3, 0, PLAIN, 1, 14), 624);
        is("free pages", x.count(1), 0);
        is("the last place", x.make(4, 0, PLAIN, 2, 0), 639);
        is("without a collection", x.count(3), 0);
        is("at(639)", x.at(639), 2);
        is("no room", x.make(5, 0, PLAIN, 3, 0), NONE);
        is("in another region neither", x.make(5, 1, PLAIN, 3, 0), NONE);
    }

    static void promise08PlacesLeftButTooFew() {
        says("Without a free page there is no room.");
        RegionPool x = withRegions(1);
        fillPages(x, 0, 39);
        x.make(3, 0, PLAIN, 1, 12);
        is("four places, three are left", x.make(4, 0, PLAIN, 2, 3), NONE);
        is("three places", x.make(4, 0, PLAIN, 3, 2), 637);
    }

    static void promise08LiftedPlacesAreNotUsed() {
        says("these places are not used again until the region is collected, or goes");
        RegionPool x = withRegions(2);
        x.make(0, 1, PLAIN, 1, 3);
        x.lift(0, 0);
        is("behind where it was", x.make(1, 1, PLAIN, 2, 0), 4);
        x.make(2, 1, PLAIN, 3, 10);
        x.lift(2, 0);
        is("a new page", x.make(3, 1, PLAIN, 4, 0), 32);
        x.collect(1);
        is("used again", x.root(1, 1), 0);
        is("used again", x.root(3, 1), 1);
        x.close();
        x.open();
        is("the region is gone: its page is used again", x.make(4, 1, PLAIN, 5, 0), 0);
    }

    static void promise08FieldsAreNil() {
        says("A new object with fields NIL is placed in a region");
        RegionPool x = withRegions(1);
        x.number(1, 9);
        x.make(0, 0, PLAIN, 1, 15);
        for (int i = 0; i < 15; i++) {
            is("field " + i, x.field(0, i, 0), 0);
            x.put(0, i, i % 2);
        }
        x.clear(0);
        x.collect(0);
        is("at the same place", x.make(0, 0, KEYED, 2, 15), 0);
        for (int i = 0; i < 15; i++) {
            is("sort of field " + i, x.field(0, i, 0), 0);
            is("content of field " + i, x.field(0, i, 1), 0);
        }
    }

    static void promise08FieldsAreNilBehindASlide() {
        says("A new object with fields NIL is placed in a region");
        RegionPool x = withRegions(1);
        x.make(0, 0, PLAIN, 1, 4);
        x.make(1, 0, PLAIN, 2, 4);
        x.number(2, 7);
        for (int i = 0; i < 5; i++) {
            x.put(0, i, 2);
            x.put(1, i, 1);
        }
        x.clear(0);
        x.collect(0);
        is("where the other one was", x.make(3, 0, PLAIN, 3, 10), 5);
        for (int i = 0; i < 10; i++) {
            is("sort of field " + i, x.field(3, i, 0), 0);
        }
        x.collect(0);
        is("nothing refers to it", x.root(1, 1), 0);
    }

    static void promise08RootRefersToIt() {
        says("root refers to it: its place");
        RegionPool x = withRegions(1);
        for (int root : new int[] {0, 15}) {
            int place = x.make(root, 0, WEAK, 999, 3);
            int[] due = {2, place, WEAK, 999, 3, 0, 0};
            for (int what = 0; what < due.length; what++) {
                is("root(" + root + ", " + what + ")", x.root(root, what), due[what]);
            }
        }
    }

    // ---- without room

    static void promise08CollectsFromTheRegionOn() {
        says("If there is no room: it collects from the region on");
        RegionPool x = withRegions(3);
        fillPages(x, 0, 37);
        x.make(2, 0, PLAIN, 1, 15);
        x.make(2, 1, PLAIN, 2, 15);
        x.make(2, 2, PLAIN, 3, 15);
        x.clear(2);
        is("in region 1: room by what is gone of 1 and 2", x.make(3, 1, PLAIN, 4, 15), 38 * 16);
        is("one collection", x.count(3), 1);
        is("two are gone", x.count(4), 2);
        is("what is not held of region 0 is still there", x.at(37 * 16), 1);
        is("a free page", x.count(1), 1);
    }

    static void promise08NewerOnesAreCollectedToo() {
        says("If there is no room: it collects from the region on");
        RegionPool x = withRegions(2);
        fillPages(x, 0, 39);
        x.make(2, 1, PLAIN, 1, 15);
        x.clear(2);
        is("in region 0: room by what is gone of 1", x.make(3, 0, PLAIN, 2, 15), 624);
        is("one collection", x.count(3), 1);
    }

    static void promise08ThenFromRegionZeroOn() {
        says("if there still is none and that is not region 0, from region 0 on");
        RegionPool x = withRegions(2);
        fillPages(x, 0, 38);
        x.make(2, 0, PLAIN, 1, 15);
        x.make(3, 1, PLAIN, 2, 15);
        x.clear(2);
        is("in region 1: room by what is gone of 0", x.make(4, 1, PLAIN, 3, 15), 38 * 16);
        is("two collections", x.count(3), 2);
        is("one is gone", x.count(4), 1);
    }

    static void promise08RegionZeroIsCollectedOnce() {
        says("if there still is none and that is not region 0, from region 0 on");
        RegionPool x = withRegions(1);
        fillPages(x, 0, 40);
        is("no room", x.make(2, 0, PLAIN, 1, 0), NONE);
        is("one collection", x.count(3), 1);
        RegionPool y = withRegions(2);
        fillPages(y, 0, 40);
        is("no room", y.make(2, 1, PLAIN, 1, 0), NONE);
        is("two collections", y.count(3), 2);
    }

    static void promise08RoomWithoutAFreePage() {
        says("If there is no room: it collects from the region on");
        RegionPool x = withRegions(1);
        fillPages(x, 0, 39);
        x.make(2, 0, PLAIN, 1, 7);
        x.make(2, 0, PLAIN, 2, 7);
        is("one of 8 places goes, one slides", x.make(3, 0, PLAIN, 3, 7), 632);
        is("the one that slid", x.root(2, 1), 624);
        is("no free page", x.count(1), 0);
    }

    static void promise08NoneAndTheRootStays() {
        says("NONE if there is none then (the root stays)");
        RegionPool x = withRegions(1);
        fillPages(x, 0, 40);
        x.number(1, 7);
        is("make", x.make(1, 0, PLAIN, 1, 0), NONE);
        is("a number", x.root(1, 1), 7);
        is("make", x.make(2, 0, PLAIN, 1, 15), NONE);
        is("NIL", x.root(2, 0), 0);
        is("make", x.make(0, 0, PLAIN, 1, 15), NONE);
        is("a reference", x.root(0, 3), 39);
        is("no new object", x.count(2), 40);
    }

    static void promise08ItMayHaveCollected() {
        says("changes nothing, but for make(), which may have collected");
        leavesAs("make without room in region 0", MakeBoundaryTest::fullWithSome,
                x -> x.make(0, 0, PLAIN, 1, 15), x -> x.collect(0));
        leavesAs("make without room in region 1", MakeBoundaryTest::fullWithSome,
                x -> x.make(0, 1, PLAIN, 1, 15), x -> {
                    x.collect(1);
                    x.collect(0);
                });
        is("it is without room", fullWithSome().make(0, 1, PLAIN, 1, 15), NONE);
    }

    // A full pool in which a collection lets some go, watches, and slides, but frees no page.
    private static RegionPool fullWithSome() {
        RegionPool x = withRegions(2);
        fillPages(x, 0, 38);
        x.move(9, 0);
        x.make(0, 0, PLAIN, 50, 4);
        x.make(0, 0, PLAIN, 51, 4);
        x.make(1, 1, PLAIN, 52, 1);
        x.watch(1);
        x.make(1, 1, WEAK, 53, 1);
        x.put(1, 0, 0);
        return x;
    }

    static void promise08ItsRootHoldsWhileItCollects() {
        says("and root refers to it: its place. If there is no room: it collects");
        RegionPool x = withRegions(1);
        fillPages(x, 0, 39);
        x.make(2, 0, PLAIN, 1, 15);
        is("what root 2 refers to is not gone", x.make(2, 0, PLAIN, 2, 15), NONE);
        x.clear(2);
        is("without it there is room", x.make(2, 0, PLAIN, 2, 15), 624);
    }

    static void promise08WatchedOnesTakeRoomStill() {
        says("come to the end of the queue");
        RegionPool x = withRegions(1);
        fillPages(x, 0, 39);
        x.make(2, 0, PLAIN, 1, 15);
        x.watch(2);
        x.clear(2);
        is("it comes to the queue", x.make(3, 0, PLAIN, 2, 0), NONE);
        is("count(9)", x.count(9), 1);
        x.due(2);
        x.clear(2);
        is("the second time it is gone", x.make(3, 0, PLAIN, 2, 0), 624);
    }

    // ---- wrong calls

    static void promise08NoSuchRoot() {
        says("IndexOutOfBoundsException: no such root.");
        RegionPool x = withRegions(1);
        for (int no : NO_ROOTS) {
            noRoot("make(" + no + ", ..)", () -> x.make(no, 0, PLAIN, 0, 0));
            noRoot("all else is wrong, too", () -> x.make(no, 1, 3, 1000, 16));
            noRoot("without a region", () -> new RegionPool().make(no, 0, PLAIN, 0, 0));
        }
        is("root 15", x.make(15, 0, PLAIN, 0, 0), 0);
    }

    static void promise08NoSuchRegion() {
        says("IllegalArgumentException: there is no such region or kind");
        RegionPool x = withRegions(2);
        for (int no : new int[] {-1, 2, 8, LEAST, MOST}) {
            badArgument("region " + no, () -> x.make(0, no, PLAIN, 0, 0));
        }
        is("region 1", x.make(0, 1, PLAIN, 0, 0), 0);
        x.close();
        badArgument("one that went", () -> x.make(0, 1, PLAIN, 0, 0));
    }

    static void promise08NoSuchKind() {
        says("IllegalArgumentException: there is no such region or kind");
        RegionPool x = withRegions(1);
        for (int no : new int[] {-1, 3, LEAST, MOST}) {
            badArgument("kind " + no, () -> x.make(0, 0, no, 0, 1));
        }
        for (int kind = 0; kind <= 2; kind++) {
            x.make(0, 0, kind, 0, 1);
            is("kind " + kind, x.root(0, 2), kind);
        }
    }

    static void promise08TagIsNotInRange() {
        says("tag is not 0 .. 999");
        RegionPool x = withRegions(1);
        for (int no : new int[] {-1, 1000, 1023, 1024, LEAST, MOST}) {
            badArgument("tag " + no, () -> x.make(0, 0, PLAIN, no, 0));
        }
        for (int tag : new int[] {0, 999}) {
            int place = x.make(0, 0, KEYED, tag, 1);
            is("tag " + tag, x.root(0, 3), tag);
            is("at the place", x.at(place), tag);
            is("its kind", x.root(0, 2), KEYED);
        }
    }

    static void promise08FieldsAreNotInRange() {
        says("fields is not 0 .. 15 (of KEYED ones 1 .. 15)");
        RegionPool x = withRegions(1);
        for (int kind = 0; kind <= 2; kind++) {
            int of = kind;
            for (int no : new int[] {-1, 16, 17, LEAST, MOST}) {
                badArgument(no + " fields of kind " + of, () -> x.make(0, 0, of, 0, no));
            }
            x.make(0, 0, kind, 0, 15);
            is("15 fields of kind " + kind, x.root(0, 4), 15);
            x.make(0, 0, kind, 0, 1);
            is("1 field of kind " + kind, x.root(0, 4), 1);
        }
        badArgument("no field, keyed", () -> x.make(0, 0, KEYED, 0, 0));
        x.make(0, 0, PLAIN, 1, 0);
        is("no field, plain", x.root(0, 4), 0);
        x.make(0, 0, WEAK, 1, 0);
        is("no field, weak", x.root(0, 4), 0);
    }

    static void promise08WhatThrowsDoesNotCollect() {
        says("what throws, or answers NONE or REFUSED, changes nothing");
        Use[] wrongOnes = {
            x -> x.make(16, 0, PLAIN, 1, 15),
            x -> x.make(0, 2, PLAIN, 1, 15),
            x -> x.make(0, 0, 3, 1, 15),
            x -> x.make(0, 0, PLAIN, 1000, 15),
            x -> x.make(0, 0, PLAIN, 1, 16),
            x -> x.make(0, 0, KEYED, 1, 0),
        };
        for (int k = 0; k < wrongOnes.length; k++) {
            changesNothing("wrong make " + k, MakeBoundaryTest::fullWithSome, wrongOnes[k]);
        }
    }
}
