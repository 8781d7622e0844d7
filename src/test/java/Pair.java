import java.lang.reflect.InvocationTargetException;
import java.lang.reflect.Method;
import java.lang.reflect.Modifier;
import java.util.ArrayList;
import java.util.Comparator;
import java.util.HashMap;
import java.util.List;
import java.util.Map;

/** A CrumbWood and a PlainWood that get the same calls; each answer, and all that is told behind it, is compared. */
final class Pair {
    private static final List<Method> FACE = publicMethods();
    private static final Map<String, Method> PLAIN = plainMethods();

    final CrumbWood wood = new CrumbWood();
    final PlainWood plain = new PlainWood();
    final StringBuilder log = new StringBuilder();
    private long latest = 0;

    /** The public methods of the class, by their names. */
    static List<Method> face() {
        return FACE;
    }

    static Method named(String name) {
        for (Method method : FACE) {
            if (method.getName().equals(name)) {
                return method;
            }
        }
        throw new IllegalArgumentException("no method " + name);
    }

    /** What CrumbWood answered last. */
    long latest() {
        return latest;
    }

    boolean write(int t, String text) {
        boolean same = compare("text", t, text.length());
        for (int i = 0; i < text.length() && same; i++) {
            same = compare("put", t, i, text.charAt(i));
        }
        return same;
    }

    /** One call on both; whether they answer and then tell the same. */
    boolean compare(String name, int... values) {
        StringBuilder words = new StringBuilder(name).append('(');
        Object[] boxed = new Object[values.length];
        for (int i = 0; i < values.length; i++) {
            boxed[i] = values[i];
            words.append(i == 0 ? "" : ", ").append(values[i]);
        }
        String call = words.append(')').toString();
        log.append(call).append('\n');
        try {
            long want = ((Number) PLAIN.get(name).invoke(plain, boxed)).longValue();
            latest = ((Number) named(name).invoke(wood, boxed)).longValue();
            Due.is(call, latest, want);
            return latest == want && compareTold(call);
        } catch (InvocationTargetException thrown) {
            Due.is(call + " threw " + thrown.getCause(), 1, 0);
            return false;
        } catch (IllegalAccessException closed) {
            throw new IllegalStateException(closed);
        }
    }

    private boolean compareTold(String call) {
        boolean same = told("asked()", call, wood.asked(), plain.asked())
            & told("upper()", call, wood.upper(), plain.upper())
            & told("lower()", call, wood.lower(), plain.lower())
            & told("finding()", call, wood.finding(), plain.finding())
            & told("digest()", call, wood.digest(), plain.digest());
        for (int f = 1; f <= 5; f++) {
            same &= told("findings(" + f + ")", call, wood.findings(f), plain.findings(f));
        }
        return same;
    }

    private static boolean told(String name, String call, long got, long want) {
        Due.is(name + " behind " + call, got, want);
        return got == want;
    }

    private static List<Method> publicMethods() {
        List<Method> face = new ArrayList<>();
        for (Method method : CrumbWood.class.getDeclaredMethods()) {
            if (Modifier.isPublic(method.getModifiers())) {
                face.add(method);
            }
        }
        face.sort(Comparator.comparing(Method::getName));
        return face;
    }

    private static Map<String, Method> plainMethods() {
        Map<String, Method> plain = new HashMap<>();
        for (Method method : FACE) {
            try {
                plain.put(method.getName(), PlainWood.class.getDeclaredMethod(method.getName(), method.getParameterTypes()));
            } catch (NoSuchMethodException missing) {
                throw new IllegalStateException(missing);
            }
        }
        return plain;
    }
}
