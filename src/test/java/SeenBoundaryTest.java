/** The boundary cases of promises 15 to 21, each sentence in a test of its own. */
public final class SeenBoundaryTest extends Checks {
    public static void main(String[] args) {
        runSentences(SeenBoundaryTest.class, 15, 16, 17, 18, 19, 20, 21);
    }

    // ---- 15: alike

    static void promise15NilAndNumbers() {
        says("TWO VALUES ARE ALIKE if both are NIL, or the same number");
        RegionPool x = withRegions(1);
        is("NIL and NIL", x.alike(0, 15), true);
        x.number(1, 0);
        is("NIL and 0", x.alike(0, 1), false);
        is("0 and NIL", x.alike(1, 0), false);
        for (int v : new int[] {0, -1, LEAST, MOST}) {
            x.number(2, v);
            x.number(3, v);
            is(v + " and " + v, x.alike(2, 3), true);
            x.number(3, v + 1);
            is("the next one", x.alike(2, 3), false);
            x.number(3, ~v);
            is("all other bits", x.alike(2, 3), false);
        }
    }

    static void promise15AReferenceIsLikeNoNumber() {
        says("or refer to objects that are alike");
        RegionPool x = withRegions(1);
        x.make(0, 0, PLAIN, 0, 0);
        x.number(1, 0);
        is("a reference and a number like its place", x.alike(0, 1), false);
        is("the other way", x.alike(1, 0), false);
        is("a reference to place 0, and NIL", x.alike(0, 2), false);
        is("NIL, and that", x.alike(2, 0), false);
        is("with itself", x.alike(0, 0), true);
    }

    static void promise15KindTagAndNumberOfFields() {
        says("of the same kind, tag, number of fields");
        int[][] others = {{WEAK, 7, 1}, {KEYED, 7, 1}, {PLAIN, 8, 1}, {PLAIN, 6, 1}, {PLAIN, 7, 0}, {PLAIN, 7, 2}};
        RegionPool x = withRegions(2);
        x.make(0, 0, PLAIN, 7, 1);
        for (int[] other : others) {
            x.make(1, 1, other[0], other[1], other[2]);
            is("kind " + other[0] + ", tag " + other[1] + ", fields " + other[2], x.alike(0, 1), false);
            is("the other way", x.alike(1, 0), false);
        }
        x.make(1, 1, PLAIN, 7, 1);
        is("the same, in another region", x.alike(0, 1), true);
        x.watch(1);
        is("one is watched", x.alike(0, 1), true);
    }

    static void promise15FieldByField() {
        says("and field by field alike");
        for (int kind = 0; kind <= 2; kind++) {
            for (int i = 0; i < 15; i++) {
                RegionPool x = withRegions(1);
                x.make(0, 0, kind, 1, 15);
                x.make(1, 0, kind, 1, 15);
                is("all NIL", x.alike(0, 1), true);
                x.number(2, 0);
                x.put(0, i, 2);
                is("another field " + i, x.alike(0, 1), false);
                x.put(1, i, 2);
                is("the same field " + i, x.alike(0, 1), true);
                x.put(0, i, 0);
                x.put(1, i, 1);
                is("each itself", x.alike(0, 1), true);
            }
        }
    }

    static void promise15FieldsInTheirOrder() {
        says("and field by field alike");
        RegionPool x = withRegions(1);
        x.make(0, 0, PLAIN, 1, 2);
        x.make(1, 0, PLAIN, 1, 2);
        x.number(2, 5);
        x.put(0, 0, 2);
        x.put(1, 1, 2);
        is("the same ones in another order", x.alike(0, 1), false);
    }

    static void promise15WithoutFields() {
        says("and field by field alike");
        RegionPool x = withRegions(1);
        x.make(0, 0, WEAK, 0, 0);
        x.make(1, 0, WEAK, 0, 0);
        is("no fields", x.alike(0, 1), true);
        x.make(2, 0, PLAIN, 0, 0);
        is("another kind", x.alike(0, 2), false);
    }

    static void promise15Rings() {
        says("Rings, too: the greatest such relation.");
        RegionPool x = withRegions(1);
        ring(x, 0, 1);
        ring(x, 1, 2);
        ring(x, 3, 3);
        for (int a = 0; a < 6; a++) {
            for (int b = 0; b < 6; b++) {
                is("roots " + a + " and " + b, x.alike(a, b), true);
            }
        }
        x.make(6, 0, PLAIN, 7, 1);
        x.put(6, 0, 3);
        is("one that leads to a ring", x.alike(6, 0), true);
        x.put(6, 0, 15);
        is("one that ends", x.alike(6, 0), false);
        is("the other way", x.alike(0, 6), false);
    }

    static void promise15RingsThatAreNot() {
        says("Rings, too: the greatest such relation.");
        RegionPool x = withRegions(1);
        ring(x, 0, 3);
        ring(x, 3, 3);
        x.make(6, 0, PLAIN, 8, 1);
        x.put(6, 0, 3);
        x.put(5, 0, 6);
        is("another tag within", x.alike(0, 3), false);
        is("the other way", x.alike(3, 0), false);
        is("at another turn", x.alike(3, 4), false);
        is("with itself", x.alike(3, 3), true);
    }

    // Roots first .. first + size - 1 refer each to the next one, the last one to the first.
    private static void ring(RegionPool x, int first, int size) {
        for (int k = 0; k < size; k++) {
            x.make(first + k, 0, PLAIN, 7, 1);
        }
        for (int k = 0; k < size; k++) {
            x.put(first + k, 0, first + (k + 1) % size);
        }
    }

    static void promise15LongChains() {
        says("and field by field alike");
        RegionPool x = withRegions(1);
        int[] ends = {1, 2};
        for (int c = 0; c < 2; c++) {
            x.number(5, ends[c]);
            for (int k = 0; k < 80; k++) {
                x.make(6, 0, PLAIN, 3, 1);
                x.put(6, 0, 5);
                x.move(5, 6);
            }
            x.move(c, 5);
        }
        is("80 objects, then 1 or 2", x.alike(0, 1), false);
        x.get(2, 1, 0);
        is("79 objects and 80", x.alike(0, 2), false);
        is("with itself", x.alike(0, 0), true);
    }

    static void promise15NoSuchRoot() {
        says("Whether two roots are alike. IndexOutOfBoundsException.");
        RegionPool x = new RegionPool();
        for (int no : NO_ROOTS) {
            noRoot("alike(" + no + ", 0)", () -> x.alike(no, 0));
            noRoot("alike(0, " + no + ")", () -> x.alike(0, no));
            noRoot("both", () -> x.alike(no, no));
        }
    }

    static void promise15ChangesNothing() {
        says("Whether two roots are alike.");
        changesNothing("alike(7, 8)", Checks::busy, x -> x.alike(7, 8));
        changesNothing("alike(0, 16)", Checks::busy, x -> x.alike(0, 16));
    }

    // ---- 16: root

    static void promise16SortsAndContents() {
        says("0 its sort (0 NIL, 1 a number, 2 a reference), 1 the number, or the object's place (NIL: 0)");
        RegionPool x = withRegions(1);
        is("sort of NIL", x.root(15, 0), 0);
        is("NIL", x.root(15, 1), 0);
        for (int v : new int[] {0, -1, -2, LEAST, MOST}) {
            x.number(15, v);
            is("sort of a number", x.root(15, 0), 1);
            is("the number", x.root(15, 1), v);
        }
        x.make(0, 0, PLAIN, 1, 2);
        x.make(15, 0, PLAIN, 1, 0);
        is("sort of a reference", x.root(0, 0), 2);
        is("place 0", x.root(0, 1), 0);
        is("place 3", x.root(15, 1), 3);
    }

    static void promise16OfTheObject() {
        says("of the object 2 kind, 3 tag, 4 how many fields, 5 its region, 6 whether it is watched (1 or 0)");
        RegionPool x = withRegions(8);
        int[][] objects = {{0, PLAIN, 0, 0}, {7, KEYED, 999, 15}, {3, WEAK, 512, 1}};
        for (int[] object : objects) {
            x.make(0, object[0], object[1], object[2], object[3]);
            is("kind", x.root(0, 2), object[1]);
            is("tag", x.root(0, 3), object[2]);
            is("fields", x.root(0, 4), object[3]);
            is("region", x.root(0, 5), object[0]);
            is("not watched", x.root(0, 6), 0);
            x.watch(0);
            is("watched", x.root(0, 6), 1);
        }
    }

    static void promise16NoneIfItIsNoReference() {
        says("(NONE if it is no reference)");
        RegionPool x = withRegions(1);
        x.make(0, 0, PLAIN, 5, 5);
        x.number(1, 0);
        for (int what = 2; what <= 6; what++) {
            is("root(1, " + what + ") of a number like a place", x.root(1, what), NONE);
            is("root(2, " + what + ") of NIL", x.root(2, what), NONE);
        }
    }

    static void promise16NoneForAnotherWhat() {
        says("NONE for another what.");
        RegionPool x = withRegions(1);
        x.make(0, 0, PLAIN, 5, 5);
        x.number(1, 7);
        for (int root = 0; root < 3; root++) {
            for (int what : new int[] {-1, 7, 8, LEAST, MOST}) {
                is("root(" + root + ", " + what + ")", x.root(root, what), NONE);
            }
        }
    }

    static void promise16NoSuchRoot() {
        says("IndexOutOfBoundsException: no such root.");
        RegionPool x = new RegionPool();
        for (int no : NO_ROOTS) {
            noRoot("root(" + no + ", 0)", () -> x.root(no, 0));
            noRoot("root(" + no + ", 7)", () -> x.root(no, 7));
        }
    }

    static void promise16NoneChangesNothing() {
        says("what throws, or answers NONE or REFUSED, changes nothing");
        changesNothing("root(16, 0)", Checks::busy, x -> x.root(16, 0));
        changesNothing("root(0, 7)", Checks::busy, x -> x.root(0, 7));
        changesNothing("root(6, 2)", Checks::busy, x -> x.root(6, 2));
    }

    // ---- 17: field

    static void promise17SortsContentsAndTags() {
        says("0 its sort, 1 the number, or the object's place (NIL: 0), 2 the object's tag");
        RegionPool x = withRegions(1);
        x.make(0, 0, KEYED, 999, 15);
        x.number(1, -2);
        x.put(0, 0, 0);
        x.put(0, 14, 1);
        int[][] due = {{2, 0, 999}, {0, 0, NONE}, {1, -2, NONE}};
        for (int what = 0; what <= 2; what++) {
            is("field(0, 0, " + what + ")", x.field(0, 0, what), due[0][what]);
            is("field(0, 1, " + what + ")", x.field(0, 1, what), due[1][what]);
            is("field(0, 14, " + what + ")", x.field(0, 14, what), due[2][what]);
        }
    }

    static void promise17NoneIfItIsNoReference() {
        says("2 the object's tag (NONE if it is no reference)");
        RegionPool x = withRegions(1);
        x.make(0, 0, PLAIN, 5, 2);
        x.number(1, 0);
        x.put(0, 0, 1);
        is("a number like a place", x.field(0, 0, 2), NONE);
        is("NIL", x.field(0, 1, 2), NONE);
    }

    static void promise17NoneForAnotherWhat() {
        says("NONE for another what");
        RegionPool x = withRegions(1);
        x.make(0, 0, PLAIN, 5, 3);
        x.number(1, 4);
        x.put(0, 0, 0);
        x.put(0, 1, 1);
        for (int i = 0; i < 3; i++) {
            for (int what : new int[] {-1, 3, 4, LEAST, MOST}) {
                is("field(0, " + i + ", " + what + ")", x.field(0, i, what), NONE);
            }
        }
    }

    static void promise17NoneWithoutSuchAField() {
        says("without such a field");
        for (int fields : new int[] {0, 1, 15}) {
            RegionPool x = withRegions(1);
            x.make(0, 0, PLAIN, 5, fields);
            x.make(1, 0, PLAIN, 6, 3);
            for (int i : new int[] {-1, fields, 15, 16, LEAST, MOST}) {
                for (int what = 0; what <= 2; what++) {
                    is("field " + i + " of " + fields + ", " + what, x.field(0, i, what), NONE);
                }
            }
        }
    }

    static void promise17NoneIfTheRootIsNoReference() {
        says("or if the root is no reference");
        RegionPool x = withRegions(1);
        x.make(0, 0, PLAIN, 5, 3);
        x.number(1, 0);
        for (int what = 0; what <= 2; what++) {
            is("of a number like a place", x.field(1, 0, what), NONE);
            is("of NIL", x.field(2, 0, what), NONE);
        }
    }

    static void promise17NoSuchRoot() {
        says("IndexOutOfBoundsException: no such root.");
        RegionPool x = new RegionPool();
        for (int no : NO_ROOTS) {
            noRoot("field(" + no + ", 0, 0)", () -> x.field(no, 0, 0));
            noRoot("all else is wrong, too", () -> x.field(no, -1, 3));
        }
    }

    static void promise17NoneChangesNothing() {
        says("what throws, or answers NONE or REFUSED, changes nothing");
        changesNothing("field(-1, 0, 0)", Checks::busy, x -> x.field(-1, 0, 0));
        changesNothing("field(0, 3, 0)", Checks::busy, x -> x.field(0, 3, 0));
        changesNothing("field(0, 0, 3)", Checks::busy, x -> x.field(0, 0, 3));
        changesNothing("field(6, 0, 0)", Checks::busy, x -> x.field(6, 0, 0));
    }

    // ---- 18: region

    static void promise18OfAnEmptyRegion() {
        says("0 pages, 1 objects, 2 places that these take, 3 places of its pages that they do not");
        RegionPool x = withRegions(8);
        for (int r = 0; r < 8; r++) {
            for (int what = 0; what <= 3; what++) {
                is("region(" + r + ", " + what + ")", x.region(r, what), 0);
            }
        }
    }

    static void promise18OfAFullRegion() {
        says("0 pages, 1 objects, 2 places that these take, 3 places of its pages that they do not");
        RegionPool x = withRegions(1);
        fillPages(x, 0, 40);
        int[] due = {40, 40, 640, 0};
        for (int what = 0; what <= 3; what++) {
            is("region(0, " + what + ")", x.region(0, what), due[what]);
        }
    }

    static void promise18PlacesThatAreLeft() {
        says("3 places of its pages that they do not");
        RegionPool x = withRegions(2);
        x.make(0, 1, PLAIN, 1, 10);
        x.make(1, 1, PLAIN, 2, 5);
        x.make(2, 1, PLAIN, 3, 0);
        int[] due = {2, 3, 18, 14};
        for (int what = 0; what <= 3; what++) {
            is("region(1, " + what + ")", x.region(1, what), due[what]);
        }
        x.lift(0, 0);
        is("objects behind a lift", x.region(1, 1), 2);
        is("places they take", x.region(1, 2), 7);
        is("places they do not", x.region(1, 3), 25);
        is("of the other region", x.region(0, 3), 5);
    }

    static void promise18OnesThatNothingHoldsCount() {
        says("1 objects, 2 places that these take");
        RegionPool x = withRegions(1);
        x.make(0, 0, PLAIN, 1, 2);
        x.clear(0);
        is("objects", x.region(0, 1), 1);
        is("places", x.region(0, 2), 3);
        x.collect(0);
        is("objects when they are gone", x.region(0, 1), 0);
    }

    static void promise18NoneForAnotherWhat() {
        says("NONE for another what");
        RegionPool x = withRegions(1);
        x.make(0, 0, PLAIN, 1, 0);
        for (int what : new int[] {-1, 4, LEAST, MOST}) {
            is("region(0, " + what + ")", x.region(0, what), NONE);
        }
    }

    static void promise18NoneIfThereIsNoSuchRegion() {
        says("or if there is no such region");
        for (int regions : new int[] {0, 1, 8}) {
            RegionPool x = withRegions(regions);
            for (int r : new int[] {-1, regions, 8, LEAST, MOST}) {
                for (int what = 0; what <= 3; what++) {
                    is("region(" + r + ", " + what + ") of " + regions, x.region(r, what), NONE);
                }
            }
        }
    }

    static void promise18NoneChangesNothing() {
        says("what throws, or answers NONE or REFUSED, changes nothing");
        changesNothing("region(3, 0)", Checks::busy, x -> x.region(3, 0));
        changesNothing("region(0, 4)", Checks::busy, x -> x.region(0, 4));
    }

    // ---- 19: page

    static void promise19TheFirstAndTheLastPage() {
        says("Page k of a region's row");
        RegionPool x = withRegions(1);
        fillPages(x, 0, 40);
        for (int k = 0; k < 40; k++) {
            is("page(0, " + k + ")", x.page(0, k), k);
        }
        is("page(0, 40)", x.page(0, 40), NONE);
    }

    static void promise19NoneIfThereIsNoneSuch() {
        says("NONE if there is none such.");
        RegionPool x = withRegions(3);
        x.make(0, 1, PLAIN, 1, 15);
        x.make(0, 1, PLAIN, 1, 15);
        for (int k : new int[] {-1, 2, 3, 39, 40, LEAST, MOST}) {
            is("page(1, " + k + ")", x.page(1, k), NONE);
        }
        for (int r : new int[] {-1, 0, 2, 3, 7, 8, LEAST, MOST}) {
            is("page(" + r + ", 0)", x.page(r, 0), NONE);
            is("page(" + r + ", -1)", x.page(r, -1), NONE);
        }
        is("page(1, 1)", x.page(1, 1), 1);
        is("without a region", new RegionPool().page(0, 0), NONE);
    }

    static void promise19NoneBehindACloseAndACollection() {
        says("NONE if there is none such.");
        RegionPool x = withRegions(2);
        x.make(0, 0, PLAIN, 1, 15);
        x.make(0, 0, PLAIN, 1, 15);
        x.make(1, 1, PLAIN, 1, 15);
        x.collect(0);
        is("page(0, 0)", x.page(0, 0), 0);
        is("page(0, 1)", x.page(0, 1), NONE);
        is("page(1, 0)", x.page(1, 0), 2);
        x.close();
        is("page(1, 0) of one that went", x.page(1, 0), NONE);
        x.open();
        is("page(1, 0) of a new one", x.page(1, 0), NONE);
    }

    static void promise19NoneChangesNothing() {
        says("what throws, or answers NONE or REFUSED, changes nothing");
        changesNothing("page(0, 40)", Checks::busy, x -> x.page(0, 40));
        changesNothing("page(3, 0)", Checks::busy, x -> x.page(3, 0));
    }

    // ---- 20: at

    static void promise20TheFirstAndTheLastPlace() {
        says("The tag of the object whose place it is");
        RegionPool x = withRegions(1);
        x.make(1, 0, PLAIN, 999, 15);
        is("the first one", x.at(0), 999);
        fillPages(x, 0, 38);
        x.make(1, 0, PLAIN, 1, 14);
        x.make(2, 0, PLAIN, 0, 0);
        is("the last page's first one", x.at(624), 1);
        is("the last one", x.at(639), 0);
        is("one ahead of it", x.at(638), NONE);
    }

    static void promise20NoneIfThereIsNone() {
        says("NONE if there is none.");
        RegionPool x = withRegions(1);
        x.make(0, 0, PLAIN, 3, 15);
        for (int i = 0; i < 15; i++) {
            x.put(0, i, 0);
        }
        for (int place = 1; place < 20; place++) {
            is("a field's place, and a free one", x.at(place), NONE);
        }
        for (int no : new int[] {-1, -16, 640, 656, LEAST, MOST}) {
            is("at(" + no + ")", x.at(no), NONE);
        }
    }

    static void promise20NoneWhereOneWas() {
        says("NONE if there is none.");
        RegionPool x = withRegions(2);
        x.make(0, 1, PLAIN, 1, 0);
        x.make(1, 1, PLAIN, 2, 0);
        x.make(2, 1, PLAIN, 3, 0);
        x.lift(0, 0);
        is("where it was lifted from", x.at(0), NONE);
        x.clear(1);
        x.collect(1);
        is("where one slid to", x.at(0), 3);
        is("where one is gone", x.at(1), NONE);
        is("where it slid from", x.at(2), NONE);
        x.close();
        is("where its region went", x.at(0), NONE);
    }

    static void promise20OneThatNothingHolds() {
        says("The tag of the object whose place it is");
        RegionPool x = withRegions(1);
        x.make(0, 0, PLAIN, 1, 0);
        x.clear(0);
        is("until it is collected", x.at(0), 1);
        x.collect(0);
        is("then", x.at(0), NONE);
    }

    static void promise20NoneChangesNothing() {
        says("what throws, or answers NONE or REFUSED, changes nothing");
        changesNothing("at(640)", Checks::busy, x -> x.at(640));
        changesNothing("at(-1)", Checks::busy, x -> x.at(-1));
    }

    // ---- 21: count

    static void promise21EachCount() {
        says("0 regions, 1 free pages, 2 objects, 3 collections so far");
        RegionPool x = busy();
        int[] due = {3, 37, 8, 1, 1, 3, 1, 1, 2, 1};
        for (int what = 0; what <= 9; what++) {
            is("count(" + what + ")", x.count(what), due[what]);
        }
    }

    static void promise21NoneForAnotherWhat() {
        says("NONE for another what.");
        RegionPool x = busy();
        for (int what : new int[] {-1, 10, 11, LEAST, MOST}) {
            is("count(" + what + ")", x.count(what), NONE);
        }
    }

    static void promise21CollectionsByMakeCount() {
        says("3 collections so far, 4 objects that were gone by these");
        RegionPool x = withRegions(2);
        fillPages(x, 0, 38);
        x.make(2, 1, PLAIN, 1, 15);
        x.make(3, 1, PLAIN, 2, 15);
        x.clear(2);
        x.make(4, 1, PLAIN, 3, 15);
        is("one collection", x.count(3), 1);
        is("one is gone", x.count(4), 1);
        is("one has moved", x.count(5), 1);
        x.make(5, 1, PLAIN, 4, 15);
        is("two more", x.count(3), 3);
        is("no more gone", x.count(4), 1);
    }

    static void promise21PartsAddUp() {
        says("6 parts that were lifted, 7 copied");
        RegionPool x = withRegions(3);
        x.make(0, 2, PLAIN, 1, 1);
        x.make(1, 2, PLAIN, 2, 0);
        x.put(0, 0, 1);
        x.copy(3, 0, 1);
        x.copy(4, 1, 0);
        is("copied", x.count(7), 3);
        is("not lifted", x.count(6), 0);
        x.lift(0, 1);
        x.lift(1, 0);
        is("lifted", x.count(6), 3);
        is("copied as before", x.count(7), 3);
    }

    static void promise21FullAndEmpty() {
        says("1 free pages, 2 objects");
        RegionPool x = withRegions(8);
        is("regions", x.count(0), 8);
        fillPages(x, 7, 40);
        is("no free page", x.count(1), 0);
        is("objects", x.count(2), 40);
        for (int r = 0; r < 8; r++) {
            x.close();
        }
        is("no region", x.count(0), 0);
        is("all pages are free", x.count(1), 40);
        is("no object", x.count(2), 0);
    }

    static void promise21WatchedAndQueued() {
        says("8 watched objects, 9 the queue");
        RegionPool x = withRegions(1);
        x.make(0, 0, PLAIN, 1, 1);
        x.make(1, 0, PLAIN, 2, 0);
        x.put(0, 0, 1);
        x.watch(0);
        is("one is watched", x.count(8), 1);
        x.clear(0);
        x.collect(0);
        is("none is watched", x.count(8), 0);
        is("one is queued", x.count(9), 1);
        x.watch(1);
        x.clear(1);
        x.collect(0);
        is("one that the queue holds is watched", x.count(8), 1);
        x.due(0);
        is("none is queued", x.count(9), 0);
    }

    static void promise21NoneChangesNothing() {
        says("what throws, or answers NONE or REFUSED, changes nothing");
        changesNothing("count(10)", Checks::busy, x -> x.count(10));
        changesNothing("count(-1)", Checks::busy, x -> x.count(-1));
    }
}
