import java.io.IOException;
import java.lang.reflect.Method;
import java.nio.file.Files;
import java.nio.file.Path;
import java.util.regex.Matcher;
import java.util.regex.Pattern;

/** The calls of README.md's example, one behind the other, answer what stands behind them. */
public final class ReadmeTest extends Checks {
    private static final Pattern CALL = Pattern.compile("pool\\.(\\w+)\\(([^)]*)\\);(?: +// (-?\\w+): .*)?");
    private static final int FEWEST_CALLS = 10;

    public static void main(String[] args) throws IOException, ReflectiveOperationException {
        RegionPool pool = new RegionPool();
        int calls = 0;
        for (String line : Files.readAllLines(Path.of("README.md"))) {
            if (line.startsWith("pool.")) {
                check(pool, line);
                calls++;
            }
        }
        of("README.md");
        is("that it has an example", calls >= FEWEST_CALLS, true);
        finish();
    }

    private static void check(RegionPool pool, String line) throws ReflectiveOperationException {
        of(line);
        Matcher call = CALL.matcher(line);
        boolean readable = call.matches();
        is("that it is a call and its answer", readable, true);
        if (readable) {
            String due = call.group(3) == null ? "null" : call.group(3);
            String got = "" + answer(pool, call.group(1), call.group(2));
            is("that " + got + " is the answer", got.equals(due), true);
        }
    }

    private static Object answer(RegionPool pool, String name, String list) throws ReflectiveOperationException {
        String[] texts = list.isEmpty() ? new String[0] : list.split(", ");
        Class<?>[] types = new Class<?>[texts.length];
        Object[] values = new Object[texts.length];
        for (int k = 0; k < texts.length; k++) {
            types[k] = int.class;
            values[k] = Integer.parseInt(texts[k]);
        }
        Method method = RegionPool.class.getDeclaredMethod(name, types);
        return method.invoke(pool, values);
    }
}
