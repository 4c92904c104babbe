import java.lang.reflect.InvocationTargetException;
import java.util.Arrays;
import java.util.Random;

/**
 * Long runs of calls, good and bad ones, on the program and on the model: both must answer alike,
 * and all that can be seen must be the same. The seeds are fixed, so each run is the same each time.
 */
public final class ModelTest {
    private static final int RUNS = 1500;
    private static final int CALLS = 512;
    private static final int[] WILD = {Integer.MIN_VALUE, -1, 16, 40, 640, 1000, Integer.MAX_VALUE};
    private static final String[] NAMES = {
        "open", "close", "collect", "clear", "number", "move", "make", "get", "put", "lift", "copy",
        "watch", "due", "alike", "root", "field", "region", "page", "at", "count"};
    // How often each call is made, by the sort of run: mixed, crowded, of many regions, of watched ones, of rings, of chains, of a pool that is nearly full.
    private static final int[][] WEIGHTS = {
        {4, 3, 5, 8, 8, 8, 24, 12, 24, 5, 5, 5, 5, 4, 2, 2, 1, 1, 1, 1},
        {2, 1, 1, 1, 3, 2, 60, 20, 40, 3, 6, 3, 2, 1, 1, 1, 1, 1, 1, 1},
        {12, 9, 5, 3, 3, 5, 25, 10, 25, 10, 10, 3, 3, 2, 1, 1, 1, 1, 1, 1},
        {3, 1, 12, 12, 2, 3, 25, 15, 25, 4, 3, 18, 14, 2, 1, 1, 1, 1, 1, 1},
        {3, 1, 3, 2, 4, 6, 20, 10, 40, 3, 8, 1, 1, 25, 1, 1, 1, 1, 1, 1},
        {4, 2, 2, 1, 2, 1, 6, 2, 2, 6, 6, 4, 4, 2, 1, 1, 1, 1, 1, 1},
        {6, 5, 3, 4, 2, 3, 25, 10, 35, 16, 16, 3, 3, 1, 1, 1, 1, 1, 1, 1},
    };
    private static final int[] FEWEST_FIELDS = {0, 6, 0, 1, 1, 9, 1};
    private static final int[] MOST_FIELDS = {6, 15, 15, 4, 2, 15, 7};
    private static final int[] TAGS = {1000, 1000, 10, 1000, 2, 1000, 1000};

    // Runs whose calls are mostly: make an object, let it hold the chain, keep it as the chain.
    private static final int CHAINS = 5;
    private static final int[] CHAIN = {6, 8, 5};
    // Runs that begin so, until all but some pages are taken, and keep that chain.
    private static final int NEARLY_FULL = 6;

    private static final int[] reached = new int[8];
    private static final String[] REACHED = {
        "make without room", "make that collects twice", "lift without room", "copy without room",
        "put that is refused", "two in the queue", "objects alike that are not the same", "8 regions"};

    public static void main(String[] args) {
        for (int run = 0; run < RUNS; run++) {
            oneRun(run);
        }
        boolean all = true;
        for (int k = 0; k < reached.length; k++) {
            if (reached[k] == 0) {
                all = false;
                System.out.println("no run reached: " + REACHED[k]);
            }
        }
        if (!all) {
            System.exit(1);
        }
    }

    private static void oneRun(int run) {
        Random random = new Random(run);
        int sort = run % WEIGHTS.length;
        RegionPool pool = new RegionPool();
        Model model = new Model();
        int wild = run % 3 == 0 ? 60 : 1000;
        for (int call = 0; call < CALLS; call++) {
            boolean chain = call > 2 && inChain(sort, call, random);
            int which = call == 0 ? 0 : chain ? CHAIN[call % 3] : chooseCall(random, sort);
            int[] a = arguments(which, random, sort, model.regions.size(), wild);
            if (chain) {
                a = chainArguments(which, random, model.regions.size());
            }
            int collections = model.collections;
            String due = answer(model, which, a);
            String got = answer(pool, which, a);
            String at = "run " + run + ", call " + call + ": " + NAMES[which] + Arrays.toString(a);
            if (!due.equals(got)) {
                fail(at + " answered " + got + ", due is " + due);
            }
            note(which, a, due, model, model.collections - collections);
            if (which == 2 || which >= 9 && which <= 10 || call % 16 == 15) {
                compare(at, pool, model);
            }
        }
    }

    private static void fail(String text) {
        System.out.println(text);
        System.exit(1);
    }

    private static void note(int which, int[] a, String due, Model model, int collected) {
        reached[0] += which == 6 && due.equals("-1") ? 1 : 0;
        reached[1] += which == 6 && collected == 2 ? 1 : 0;
        reached[2] += which == 9 && due.equals("-1") ? 1 : 0;
        reached[3] += which == 10 && due.equals("-1") ? 1 : 0;
        reached[4] += due.equals("-2") ? 1 : 0;
        reached[5] += model.waiting().size() >= 2 ? 1 : 0;
        if (which == 13 && due.equals("true")) {
            Object x = model.roots[a[0]];
            reached[6] += x instanceof Model.Obj && x != model.roots[a[1]] ? 1 : 0;
        }
        reached[7] += model.regions.size() == 8 ? 1 : 0;
    }

    private static int chooseCall(Random random, int sort) {
        int sum = 0;
        for (int weight : WEIGHTS[sort]) {
            sum += weight;
        }
        int left = random.nextInt(sum);
        int which = 0;
        while (left >= WEIGHTS[sort][which]) {
            left -= WEIGHTS[sort][which];
            which++;
        }
        return which;
    }

    private static int[] arguments(int which, Random random, int sort, int regions, int wild) {
        int roots = sort == 4 ? 6 : 16;
        int kept = sort == NEARLY_FULL ? 2 : 0;
        int r = kept + random.nextInt(roots - kept);
        int s = kept + random.nextInt(roots - kept);
        int level = regions == 0 ? 0 : random.nextInt(regions);
        int i = random.nextInt(random.nextInt(MOST_FIELDS[sort] + 1) + 1);
        int[] a = switch (NAMES[which]) {
            case "open", "close" -> new int[] {};
            case "collect" -> new int[] {level};
            case "clear", "watch", "due" -> new int[] {r};
            case "number" -> new int[] {r, random.nextInt(8) == 0 ? random.nextInt() : random.nextInt(3)};
            case "move", "alike" -> new int[] {r, s};
            case "make" -> new int[] {r, level, kind(random), random.nextInt(TAGS[sort]), fields(random, sort)};
            case "get", "put" -> which == 7 ? new int[] {r, s, i} : new int[] {r, i, s};
            case "lift" -> new int[] {r, level};
            case "copy" -> new int[] {r, s, level};
            case "root" -> new int[] {r, random.nextInt(8)};
            case "field" -> new int[] {r, i, random.nextInt(4)};
            case "region", "page" -> new int[] {level, random.nextInt(6)};
            case "at" -> new int[] {random.nextInt(640)};
            default -> new int[] {random.nextInt(11)};
        };
        if (a.length > 0 && random.nextInt(wild) == 0) {
            a[random.nextInt(a.length)] = WILD[random.nextInt(WILD.length)];
        }
        return a;
    }

    private static boolean inChain(int sort, int call, Random random) {
        int someCalls = 3 * (30 + random.nextInt(10));
        return sort == NEARLY_FULL && call < someCalls || sort == CHAINS && random.nextInt(16) > 0;
    }

    private static int[] chainArguments(int which, Random random, int regions) {
        int newest = Math.max(0, regions - 1);
        return switch (NAMES[which]) {
            case "make" -> new int[] {0, newest, 0, random.nextInt(1000), fields(random, CHAINS)};
            case "put" -> new int[] {0, random.nextInt(4), 1};
            default -> new int[] {1, 0};
        };
    }

    private static int kind(Random random) {
        int k = random.nextInt(6);
        return k < 3 ? 0 : k == 3 ? 1 : 2;
    }

    private static int fields(Random random, int sort) {
        return FEWEST_FIELDS[sort] + random.nextInt(MOST_FIELDS[sort] - FEWEST_FIELDS[sort] + 1);
    }

    private static String answer(Object x, int which, int[] a) {
        Object[] boxed = new Object[a.length];
        Class<?>[] types = new Class<?>[a.length];
        for (int k = 0; k < a.length; k++) {
            boxed[k] = a[k];
            types[k] = int.class;
        }
        try {
            return "" + x.getClass().getDeclaredMethod(NAMES[which], types).invoke(x, boxed);
        } catch (InvocationTargetException e) {
            // The very class: what the machine throws has a name of its own.
            return e.getCause().getClass().getName();
        } catch (ReflectiveOperationException e) {
            return "there is no such call: " + e;
        }
    }

    private static void compare(String at, RegionPool pool, Model model) {
        for (int what = -1; what <= 10; what++) {
            same(at, "count", what, 0, pool.count(what), model.count(what));
        }
        for (int root = 0; root < 16; root++) {
            compareRoot(at, root, pool, model);
        }
        for (int r = -1; r <= 8; r++) {
            for (int what = -1; what <= 4; what++) {
                same(at, "region", r, what, pool.region(r, what), model.region(r, what));
            }
            for (int k = -1; k <= 40; k++) {
                same(at, "page", r, k, pool.page(r, k), model.page(r, k));
            }
        }
        int[] tags = model.tagsByPlace();
        for (int place = 0; place < 640; place++) {
            same(at, "at", place, 0, pool.at(place), tags[place]);
        }
    }

    private static void compareRoot(String at, int root, RegionPool pool, Model model) {
        for (int what = -1; what <= 7; what++) {
            same(at, "root", root, what, pool.root(root, what), model.root(root, what));
        }
        for (int i = -1; i <= 15; i++) {
            for (int what = -1; what <= 3; what++) {
                same(at, "field " + i + " of", root, what, pool.field(root, i, what), model.field(root, i, what));
            }
        }
    }

    private static void same(String at, String name, int a, int b, int got, int due) {
        if (got != due) {
            fail("after " + at + ": " + name + " " + a + ", " + b + " is " + got + ", due is " + due);
        }
    }
}
