import java.lang.reflect.InvocationTargetException;
import java.lang.reflect.Method;
import java.util.ArrayList;
import java.util.Comparator;
import java.util.List;
import java.util.Random;

/** Random runs of calls, by seeds that stay the same, each answer compared with PlainWood's; no call may throw. */
public final class ModelTest {
    private static final int RUNS = 400, CALLS = 512, TEXTS = 20000;
    private static final int[] EDGES = {Integer.MIN_VALUE, Integer.MAX_VALUE, -1, 9, 40, 41, 80, 81, 1000, -1000, 256};

    private static final class Pair {
        final CrumbWood wood = new CrumbWood();
        final PlainWood plain = new PlainWood();
        final Random random;
        final StringBuilder log = new StringBuilder();

        Pair(long seed) {
            random = new Random(seed);
        }
    }

    public static void main(String[] args) throws ReflectiveOperationException {
        List<Method> face = face();
        for (int run = 0; run < RUNS; run++) {
            Pair pair = new Pair(run);
            boolean same = true;
            for (int i = 0; i < CALLS && same; i++) {
                same = step(pair, face);
            }
            if (!same) {
                System.out.println("run " + run + ":\n" + pair.log);
                break;
            }
        }
        texts(face);
        Due.end();
    }

    private static List<Method> face() {
        List<Method> face = new ArrayList<>();
        for (Method method : CrumbWood.class.getDeclaredMethods()) {
            if (java.lang.reflect.Modifier.isPublic(method.getModifiers())) {
                face.add(method);
            }
        }
        face.sort(Comparator.comparing(Method::getName));
        return face;
    }

    /** A random call; now and then a whole WOOD is written, for else there would hardly be one. */
    private static boolean step(Pair pair, List<Method> face) throws ReflectiveOperationException {
        Random random = pair.random;
        int dice = random.nextInt(200);
        if (dice == 0 || dice < 60 && pair.plain.count(0) == 0) {
            return writeWood(pair, face, randomWood(random));
        }
        if (dice < 20) {
            return walk(pair, face);
        }
        if (dice < 50) {
            return compare(pair, named(face, "fool"), random.nextInt(8), random.nextInt(3));
        }
        if (dice < 65) {
            return compare(pair, named(face, "lead"), random.nextInt(8));
        }
        if (dice == 66) {
            return compare(pair, named(face, "lots"), 1 + random.nextInt(6), 1 + random.nextInt(2147483646));
        }
        Method method = face.get(random.nextInt(face.size()));
        int[] values = new int[method.getParameterCount()];
        for (int i = 0; i < values.length; i++) {
            values[i] = randomValue(random);
        }
        return compare(pair, method, values);
    }

    private static int randomValue(Random random) {
        int dice = random.nextInt(40);
        if (dice == 0) {
            return EDGES[random.nextInt(EDGES.length)];
        }
        if (dice < 4) {
            return random.nextInt(45) - 2;
        }
        return random.nextInt(dice < 20 ? 3 : 7);
    }

    /** A ROW of PLACES, each beside the one ahead, and what is planned by it. */
    private static boolean walk(Pair pair, List<Method> face) throws ReflectiveOperationException {
        Random random = pair.random;
        if (pair.plain.count(0) == 0) {
            return true;
        }
        int size = random.nextInt(9);
        boolean same = compare(pair, named(face, "row"), 5, size);
        int x = pair.plain.here();
        same &= pair.wood.here() == x;
        for (int i = 0; i < size && same; i++) {
            pair.plain.place(x, 1);
            int around = pair.plain.asked();
            pair.wood.place(x, 1);
            int y = random.nextInt(8);
            for (int k = 0; k < 8 && (around >> y & 1) == 0; k++) {
                y = (y + 1) % 8;
            }
            same = compare(pair, named(face, "lay"), 5, i, y);
            x = y < pair.plain.count(0) ? y : x;
        }
        int n = random.nextInt(4);
        return same && compare(pair, named(face, "fewest"), 5, n) && compare(pair, named(face, "surest"), 5, n);
    }

    private static Method named(List<Method> face, String name) {
        for (Method method : face) {
            if (method.getName().equals(name)) {
                return method;
            }
        }
        throw new IllegalStateException("no method " + name);
    }

    private static boolean writeWood(Pair pair, List<Method> face, String text) throws ReflectiveOperationException {
        boolean same = compare(pair, named(face, "text"), 0, text.length());
        for (int i = 0; i < text.length() && same; i++) {
            same = compare(pair, named(face, "put"), 0, i, text.charAt(i));
        }
        return same && compare(pair, named(face, "fault"), 0) && compare(pair, named(face, "wood"), 0);
    }

    private static String randomWood(Random random) {
        StringBuilder text = new StringBuilder();
        int places = 2 + random.nextInt(7);
        for (int x = 0; x < places; x++) {
            text.append(blanks(random)).append("pgtbmcpp".charAt(random.nextInt(8)));
        }
        boolean[] told = new boolean[64];
        int paths = random.nextInt(15);
        for (int i = 0; i < paths; i++) {
            int x = random.nextInt(places);
            int y = random.nextInt(places);
            if (x != y && !told[8 * x + y]) {
                told[8 * x + y] = true;
                told[8 * y + x] = true;
                text.append(blanks(random)).append('-').append(x).append(y);
            }
        }
        int birds = random.nextInt(5);
        for (int i = 0; i < birds; i++) {
            text.append(blanks(random)).append('v').append(random.nextInt(places));
        }
        text.append(blanks(random)).append('k');
        for (int m = 0; m < 3; m++) {
            text.append(random.nextInt(10));
        }
        text.append(blanks(random));
        return text.length() > 80 ? text.substring(0, 80) : text.toString();
    }

    private static String blanks(Random random) {
        return random.nextInt(12) == 0 ? "  ".substring(random.nextInt(2)) : "";
    }

    /** Texts with a sign or two changed, so that FAULTS of all sorts come up. */
    private static void texts(List<Method> face) throws ReflectiveOperationException {
        Pair pair = new Pair(4711);
        boolean same = true;
        for (int i = 0; i < TEXTS && same; i++) {
            StringBuilder text = new StringBuilder(randomWood(pair.random));
            int changes = pair.random.nextInt(3);
            for (int k = 0; k < changes; k++) {
                char sign = "pgtbmc-vk0123456789 x".charAt(pair.random.nextInt(21));
                int spot = pair.random.nextInt(text.length());
                if (pair.random.nextBoolean()) {
                    text.setCharAt(spot, sign);
                } else if (text.length() < 80) {
                    text.insert(spot, sign);
                }
            }
            text.setLength(pair.random.nextInt(4) == 0 ? pair.random.nextInt(text.length() + 1) : text.length());
            pair.log.setLength(0);
            same = writeWood(pair, face, text.toString());
        }
        if (!same) {
            System.out.println(pair.log);
        }
    }

    private static boolean compare(Pair pair, Method method, int... values) throws ReflectiveOperationException {
        StringBuilder call = new StringBuilder(method.getName()).append('(');
        Object[] boxed = new Object[values.length];
        for (int i = 0; i < values.length; i++) {
            boxed[i] = values[i];
            call.append(i == 0 ? "" : ", ").append(values[i]);
        }
        call.append(')');
        pair.log.append(call).append('\n');
        Method plain = PlainWood.class.getDeclaredMethod(method.getName(), method.getParameterTypes());
        long want = ((Number) plain.invoke(pair.plain, boxed)).longValue();
        long got;
        try {
            got = ((Number) method.invoke(pair.wood, boxed)).longValue();
        } catch (InvocationTargetException thrown) {
            System.out.println(call + " threw " + thrown.getCause());
            Due.is(call.toString(), 0, 1);
            return false;
        }
        Due.is(call.toString(), got, want);
        return got == want && compareTold(pair, call.toString());
    }

    private static boolean compareTold(Pair pair, String call) {
        long[] got = {pair.wood.asked(), pair.wood.upper(), pair.wood.lower(), pair.wood.finding(), pair.wood.digest()};
        long[] want = {pair.plain.asked(), pair.plain.upper(), pair.plain.lower(), pair.plain.finding(), pair.plain.digest()};
        String[] names = {"asked()", "upper()", "lower()", "finding()", "digest()"};
        boolean same = true;
        for (int i = 0; i < got.length; i++) {
            Due.is(names[i] + " behind " + call, got[i], want[i]);
            same &= got[i] == want[i];
        }
        return same;
    }
}
