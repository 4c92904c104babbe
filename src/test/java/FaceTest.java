import java.lang.reflect.Constructor;
import java.lang.reflect.Field;
import java.lang.reflect.Method;
import java.lang.reflect.Modifier;
import java.util.Arrays;
import java.util.Set;
import java.util.TreeSet;

/** The class has the document's face, and nothing else of it can be seen from outside. */
public final class FaceTest {
    private static final String[] FACE = {
        "constructor()",
        "int open()",
        "int close()",
        "int collect(int) IllegalArgumentException",
        "void clear(int) IndexOutOfBoundsException",
        "void number(int,int) IndexOutOfBoundsException",
        "void move(int,int) IndexOutOfBoundsException",
        "int make(int,int,int,int,int) IndexOutOfBoundsException,IllegalArgumentException",
        "boolean get(int,int,int) IndexOutOfBoundsException,IllegalStateException",
        "int put(int,int,int) IndexOutOfBoundsException,IllegalStateException",
        "int lift(int,int) IndexOutOfBoundsException,IllegalArgumentException",
        "int copy(int,int,int) IndexOutOfBoundsException,IllegalArgumentException",
        "boolean watch(int) IndexOutOfBoundsException,IllegalStateException",
        "int due(int) IndexOutOfBoundsException",
        "boolean alike(int,int) IndexOutOfBoundsException",
        "int root(int,int) IndexOutOfBoundsException",
        "int field(int,int,int) IndexOutOfBoundsException",
        "int region(int,int)",
        "int page(int,int)",
        "int at(int)",
        "int count(int)",
        "NONE -1",
        "REFUSED -2",
    };

    public static void main(String[] args) throws IllegalAccessException {
        Set<String> due = new TreeSet<>(Arrays.asList(FACE));
        Set<String> seen = visibleMembers();
        boolean right = true;
        for (String member : due) {
            if (!seen.contains(member)) {
                right = false;
                System.out.println("the face lacks: " + member);
            }
        }
        for (String member : seen) {
            if (!due.contains(member)) {
                right = false;
                System.out.println("not of the face: " + member);
            }
        }
        right &= namesAreKept() & classIsPublicAndFinal();
        if (!right) {
            System.exit(1);
        }
    }

    private static Set<String> visibleMembers() throws IllegalAccessException {
        Set<String> seen = new TreeSet<>();
        for (Constructor<?> c : RegionPool.class.getDeclaredConstructors()) {
            if (Modifier.isPublic(c.getModifiers())) {
                seen.add("constructor(" + names(c.getParameterTypes()) + ")");
            }
        }
        for (Method m : RegionPool.class.getDeclaredMethods()) {
            if (!Modifier.isPrivate(m.getModifiers())) {
                seen.add(signature(m));
            }
        }
        for (Field f : RegionPool.class.getDeclaredFields()) {
            if (!Modifier.isPrivate(f.getModifiers())) {
                seen.add(f.getName() + " " + f.getInt(null));
            }
        }
        return seen;
    }

    private static String signature(Method m) {
        String exceptions = names(m.getExceptionTypes());
        return m.getReturnType().getSimpleName() + " " + m.getName()
                + "(" + names(m.getParameterTypes()) + ")" + (exceptions.isEmpty() ? "" : " " + exceptions);
    }

    private static String names(Class<?>[] types) {
        StringBuilder text = new StringBuilder();
        for (Class<?> type : types) {
            text.append(text.length() == 0 ? "" : ",").append(type.getSimpleName());
        }
        return text.toString();
    }

    // No private method, of the classes inside neither, bears the name of a public one.
    private static boolean namesAreKept() {
        Set<String> taken = new TreeSet<>();
        for (Method m : RegionPool.class.getDeclaredMethods()) {
            if (Modifier.isPublic(m.getModifiers())) {
                taken.add(m.getName());
            }
        }
        boolean kept = noneTaken(RegionPool.class, taken);
        for (Class<?> inside : RegionPool.class.getDeclaredClasses()) {
            kept &= noneTaken(inside, taken);
        }
        return kept;
    }

    private static boolean noneTaken(Class<?> owner, Set<String> taken) {
        boolean kept = true;
        for (Method m : owner.getDeclaredMethods()) {
            if (!Modifier.isPublic(m.getModifiers()) && taken.contains(m.getName())) {
                kept = false;
                System.out.println("bears the name of a public one: " + m);
            }
        }
        return kept;
    }

    private static boolean classIsPublicAndFinal() {
        int is = RegionPool.class.getModifiers();
        boolean right = Modifier.isPublic(is) && Modifier.isFinal(is);
        if (!right) {
            System.out.println("the class is not public and final");
        }
        return right;
    }
}
