import java.lang.reflect.InvocationTargetException;
import java.lang.reflect.Method;
import java.util.Arrays;
import java.util.Comparator;

/** What the tests share: questions with the answer that is due, and pools of which they are asked. */
abstract class Checks {
    static final int NONE = RegionPool.NONE;
    static final int REFUSED = RegionPool.REFUSED;
    static final int PLAIN = 0;
    static final int WEAK = 1;
    static final int KEYED = 2;
    static final int LEAST = Integer.MIN_VALUE;
    static final int MOST = Integer.MAX_VALUE;
    static final int[] NO_ROOTS = {-1, 16, LEAST, MOST};

    private static int wrong = 0;
    private static String subject = "";
    private static String sentence = "";

    interface Call {
        void run();
    }

    interface Made {
        RegionPool make();
    }

    interface Use {
        void on(RegionPool x);
    }

    /** Each method named after a promise is a test of one sentence; each of these promises has one. */
    static void runSentences(Class<?> tests, int... promises) {
        for (int promise : promises) {
            runNamed(tests, String.format("promise%02d", promise));
        }
        finish();
    }

    /** Likewise for what the document says ahead of its promises. */
    static void runTerms(Class<?> tests) {
        runNamed(tests, "term");
        finish();
    }

    private static void runNamed(Class<?> tests, String beginning) {
        Method[] methods = tests.getDeclaredMethods();
        Arrays.sort(methods, Comparator.comparing(Method::getName));
        int run = 0;
        for (Method method : methods) {
            if (method.getName().matches(beginning + "[A-Z].*")) {
                runSentence(method);
                run++;
            }
        }
        is("that there are tests named " + beginning, run > 0, true);
    }

    private static void runSentence(Method method) {
        subject = method.getName();
        sentence = "";
        try {
            method.invoke(null);
        } catch (InvocationTargetException e) {
            report("ended with " + e.getCause());
        } catch (IllegalAccessException e) {
            report("can't be run: " + e);
        }
        if (sentence.isEmpty()) {
            report("names no sentence");
        }
    }

    static void finish() {
        if (wrong != 0) {
            System.out.println(wrong + " answers are not as due");
            System.exit(1);
        }
    }

    static void of(String name) {
        subject = name;
    }

    static void says(String text) {
        sentence = " (\"" + text + "\")";
    }

    private static void report(String text) {
        wrong++;
        System.out.println(subject + sentence + ": " + text);
    }

    static void is(String call, int got, int due) {
        if (got != due) {
            report(call + " is " + got + ", due is " + due);
        }
    }

    static void is(String call, boolean got, boolean due) {
        is(call, got ? 1 : 0, due ? 1 : 0);
    }

    static void fails(String call, Class<? extends RuntimeException> due, Call it) {
        String got = "nothing";
        try {
            it.run();
        } catch (RuntimeException e) {
            // The very class: what the machine throws has a name of its own.
            got = e.getClass().getName();
        }
        if (!got.equals(due.getName())) {
            report(call + " throws " + got + ", due is " + due.getName());
        }
    }

    static void noRoot(String call, Call it) {
        fails(call, IndexOutOfBoundsException.class, it);
    }

    static void badArgument(String call, Call it) {
        fails(call, IllegalArgumentException.class, it);
    }

    static void noReference(String call, Call it) {
        fails(call, IllegalStateException.class, it);
    }

    // ---- pools

    static RegionPool withRegions(int regions) {
        RegionPool x = new RegionPool();
        for (int r = 0; r < regions; r++) {
            x.open();
        }
        return x;
    }

    /** Root 0 holds a chain of plain objects that fill as many pages of a region; root 1 is NIL then. */
    static void fillPages(RegionPool x, int region, int pages) {
        x.clear(0);
        for (int k = 0; k < pages; k++) {
            x.make(1, region, PLAIN, k, 15);
            x.put(1, 0, 0);
            x.move(0, 1);
        }
        x.clear(1);
    }

    static void clearRoots(RegionPool x, int first, int last) {
        for (int root = first; root <= last; root++) {
            x.clear(root);
        }
    }

    /** Three regions, and something of all that can be: no count is 0. */
    static RegionPool busy() {
        RegionPool x = withRegions(3);
        x.make(0, 0, PLAIN, 10, 3);
        x.make(1, 1, KEYED, 11, 2);
        x.make(9, 2, PLAIN, 19, 4);
        x.make(2, 2, WEAK, 12, 2);
        x.make(3, 2, PLAIN, 13, 1);
        x.make(4, 2, PLAIN, 14, 0);
        x.make(5, 1, PLAIN, 15, 0);
        x.number(6, -7);
        x.put(0, 1, 6);
        x.put(1, 0, 0);
        x.put(1, 1, 5);
        x.put(2, 0, 3);
        x.put(3, 0, 1);
        x.watch(4);
        x.watch(5);
        x.watch(3);
        x.clear(4);
        x.clear(9);
        x.collect(2);
        x.make(7, 2, PLAIN, 16, 2);
        x.copy(8, 7, 1);
        x.lift(7, 0);
        return x;
    }

    /** Region 0 has 38 pages, region 1 one with two objects of 15 and 1 places: one page is free. */
    static RegionPool crowded() {
        RegionPool x = withRegions(2);
        fillPages(x, 0, 38);
        x.move(9, 0);
        x.make(0, 1, PLAIN, 100, 14);
        x.make(1, 1, PLAIN, 101, 0);
        x.put(0, 0, 1);
        return x;
    }

    // ---- all that can be seen

    private static final int LOOKS = 9;

    /** What throws, or answers NONE or REFUSED, changes nothing. */
    static void changesNothing(String call, Made made, Use refused) {
        leavesAs(call, made, refused, x -> { });
    }

    /** One use of a pool leaves it as another use does: each look is at new pools, within 512 calls. */
    static void leavesAs(String call, Made made, Use one, Use other) {
        for (int k = 0; k < LOOKS; k++) {
            RegionPool x = made.make();
            RegionPool y = made.make();
            letThrow(x, one);
            letThrow(y, other);
            String got = look(x, k);
            String due = look(y, k);
            if (!got.equals(due)) {
                report(call + " leaves " + got + ", due is " + due);
            }
        }
    }

    private static void letThrow(RegionPool x, Use use) {
        try {
            use.on(x);
        } catch (IndexOutOfBoundsException | IllegalArgumentException | IllegalStateException e) {
            // What is thrown is asked elsewhere; here it is what that leaves.
        }
    }

    private static String look(RegionPool x, int k) {
        StringBuilder seen = new StringBuilder("look " + k + ":");
        switch (k) {
            case 0 -> seeCountsAndRoots(x, seen);
            case 1 -> seeRegions(x, seen);
            case 2, 3 -> seePlaces(x, seen, (k - 2) * 320);
            case 4 -> seeFields(x, seen);
            case 5 -> seeFieldsOfFields(x, seen);
            case 6 -> seeQueue(x, seen);
            case 7 -> seeNextPlaces(x, seen);
            default -> seeAfterCollecting(x, seen);
        }
        return seen.toString();
    }

    private static void seeCountsAndRoots(RegionPool x, StringBuilder seen) {
        for (int what = 0; what <= 9; what++) {
            seen.append(' ').append(x.count(what));
        }
        for (int root = 0; root < 16; root++) {
            for (int what = 0; what <= 6; what++) {
                seen.append(' ').append(x.root(root, what));
            }
        }
    }

    private static void seeRegions(RegionPool x, StringBuilder seen) {
        for (int r = 0; r < 8; r++) {
            for (int what = 0; what <= 3; what++) {
                seen.append(' ').append(x.region(r, what));
            }
            int pages = x.region(r, 0);
            for (int k = 0; k < pages; k++) {
                seen.append(' ').append(x.page(r, k));
            }
        }
    }

    private static void seePlaces(RegionPool x, StringBuilder seen, int first) {
        for (int place = first; place < first + 320; place++) {
            seen.append(' ').append(x.at(place));
        }
    }

    private static void seeFields(RegionPool x, StringBuilder seen) {
        for (int root = 0; root < 16; root++) {
            int fields = x.root(root, 4);
            for (int i = 0; i < fields; i++) {
                for (int what = 0; what <= 2; what++) {
                    seen.append(' ').append(x.field(root, i, what));
                }
            }
        }
    }

    private static void seeFieldsOfFields(RegionPool x, StringBuilder seen) {
        for (int root = 0; root < 15; root++) {
            int fields = x.root(root, 4);
            for (int i = 0; i < fields; i++) {
                x.get(15, root, i);
                seen.append(' ').append(x.root(15, 1)).append(' ').append(x.field(15, 0, 1));
                seen.append(' ').append(x.root(15, 6)).append(' ').append(x.field(15, 1, 1));
            }
        }
    }

    private static void seeQueue(RegionPool x, StringBuilder seen) {
        int waiting = x.count(9);
        for (int k = 0; k <= waiting; k++) {
            seen.append(' ').append(x.due(15)).append(' ').append(x.root(15, 1));
        }
    }

    private static void seeNextPlaces(RegionPool x, StringBuilder seen) {
        int regions = x.count(0);
        for (int r = 0; r < regions; r++) {
            seen.append(' ').append(x.make(15, r, PLAIN, 1, 0)).append(' ').append(x.count(3));
        }
    }

    private static void seeAfterCollecting(RegionPool x, StringBuilder seen) {
        clearRoots(x, 0, 8);
        if (x.count(0) > 0) {
            seen.append(' ').append(x.collect(0));
        }
        seeCountsAndRoots(x, seen);
        seeQueue(x, seen);
        seen.append(' ').append(x.close()).append(' ').append(x.open());
    }
}
