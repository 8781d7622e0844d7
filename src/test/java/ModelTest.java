import java.lang.reflect.Method;
import java.util.Random;

/** Random runs of calls, by seeds that stay the same, each answer compared with PlainWood's; no call may throw. */
public final class ModelTest {
    private static final int RUNS = 400, CALLS = 512, TEXTS = 20000;
    private static final int[] EDGES = {Integer.MIN_VALUE, Integer.MAX_VALUE, -1, 9, 40, 41, 80, 81, 1000, -1000, 256};

    private ModelTest() {
    }

    public static void main(String[] args) {
        for (int run = 0; run < RUNS; run++) {
            Pair pair = new Pair();
            Random random = new Random(run);
            boolean same = true;
            for (int i = 0; i < CALLS && same; i++) {
                same = step(pair, random);
            }
            if (!same) {
                System.out.println("run " + run + ":\n" + pair.log);
                break;
            }
        }
        texts();
        Due.end();
    }

    /** A random call; now and then a whole WOOD is written, for else there would hardly be one. */
    private static boolean step(Pair pair, Random random) {
        int dice = random.nextInt(200);
        if (dice == 0 || dice < 60 && pair.plain.count(0) == 0) {
            return writeWood(pair, randomWood(random));
        }
        if (dice < 20) {
            return walk(pair, random);
        }
        if (dice < 50) {
            return pair.compare("fool", random.nextInt(8), random.nextInt(3));
        }
        if (dice < 65) {
            return pair.compare("lead", random.nextInt(8));
        }
        if (dice == 66) {
            return pair.compare("lots", 1 + random.nextInt(6), 1 + random.nextInt(2147483646));
        }
        Method method = Pair.face().get(random.nextInt(Pair.face().size()));
        int[] values = new int[method.getParameterCount()];
        for (int i = 0; i < values.length; i++) {
            values[i] = randomValue(random);
        }
        return pair.compare(method.getName(), values);
    }

    private static int randomValue(Random random) {
        int dice = random.nextInt(40);
        if (dice == 0) {
            return EDGES[random.nextInt(EDGES.length)];
        }
        if (dice < 4) {
            return random.nextInt(45) - 2;
        }
        return random.nextInt(dice < 20 ? 3 : 7);
    }

    /** A ROW of PLACES, each beside the one ahead, and what is planned by it. */
    private static boolean walk(Pair pair, Random random) {
        if (pair.plain.count(0) == 0) {
            return true;
        }
        int size = random.nextInt(9);
        boolean same = pair.compare("row", 5, size) && pair.compare("here");
        int x = pair.plain.here();
        for (int i = 0; i < size && same; i++) {
            same = pair.compare("place", x, 1);
            int around = pair.plain.asked();
            int y = random.nextInt(8);
            for (int k = 0; k < 8 && (around >> y & 1) == 0; k++) {
                y = (y + 1) % 8;
            }
            same = same && pair.compare("lay", 5, i, y);
            x = y < pair.plain.count(0) ? y : x;
        }
        int n = random.nextInt(4);
        return same && pair.compare("fewest", 5, n) && pair.compare("surest", 5, n);
    }

    private static boolean writeWood(Pair pair, String text) {
        return pair.write(0, text) && pair.compare("fault", 0) && pair.compare("wood", 0);
    }

    private static String randomWood(Random random) {
        StringBuilder text = new StringBuilder();
        int places = 2 + random.nextInt(7);
        for (int x = 0; x < places; x++) {
            text.append(blanks(random)).append("pgtbmcpp".charAt(random.nextInt(8)));
        }
        boolean[] told = new boolean[64];
        int paths = random.nextInt(15);
        for (int i = 0; i < paths; i++) {
            int x = random.nextInt(places);
            int y = random.nextInt(places);
            if (x != y && !told[8 * x + y]) {
                told[8 * x + y] = true;
                told[8 * y + x] = true;
                text.append(blanks(random)).append('-').append(x).append(y);
            }
        }
        int birds = random.nextInt(5);
        for (int i = 0; i < birds; i++) {
            text.append(blanks(random)).append('v').append(random.nextInt(places));
        }
        text.append(blanks(random)).append('k');
        for (int m = 0; m < 3; m++) {
            text.append(random.nextInt(10));
        }
        text.append(blanks(random));
        return text.length() > 80 ? text.substring(0, 80) : text.toString();
    }

    private static String blanks(Random random) {
        return random.nextInt(12) == 0 ? "  ".substring(random.nextInt(2)) : "";
    }

    /** Texts with a sign or two changed, so that FAULTS of all sorts come up. */
    private static void texts() {
        Pair pair = new Pair();
        Random random = new Random(4711);
        boolean same = true;
        for (int i = 0; i < TEXTS && same; i++) {
            pair.log.setLength(0);
            same = writeWood(pair, changed(randomWood(random), random));
        }
        if (!same) {
            System.out.println(pair.log);
        }
    }

    private static String changed(String right, Random random) {
        StringBuilder text = new StringBuilder(right);
        int changes = random.nextInt(3);
        for (int k = 0; k < changes; k++) {
            char sign = "pgtbmc-vk0123456789 x".charAt(random.nextInt(21));
            int spot = random.nextInt(text.length());
            if (random.nextBoolean()) {
                text.setCharAt(spot, sign);
            } else if (text.length() < 80) {
                text.insert(spot, sign);
            }
        }
        text.setLength(random.nextInt(4) == 0 ? random.nextInt(text.length() + 1) : text.length());
        return text.toString();
    }
}
