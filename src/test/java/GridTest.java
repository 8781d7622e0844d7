import java.lang.reflect.Method;

/**
 * Every call with every choice of numbers at, just below and just above the document's bounds, in several states,
 * compared with PlainWood: no call may throw, and what is refused leaves all that is told.
 */
public final class GridTest {
    private static final int[] MANY = {Integer.MIN_VALUE, -1, 0, 1, 2, 3, 4, 5, 6, 7, 8, 9, 10, 11, 20, 21, 39, 40, 41, 79, 80, 81,
        Integer.MAX_VALUE - 1, Integer.MAX_VALUE};
    private static final int[] SOME = {Integer.MIN_VALUE, -1, 0, 1, 2, 3, 5, 6, 8, 39, 40, 80, Integer.MAX_VALUE};
    private static final int[] FEW = {Integer.MIN_VALUE, -1, 0, 1, 2, 5, 6, 40, Integer.MAX_VALUE};

    /** The calls that lead to each state: a WOOD's text first, if there is one. */
    private static final String[][] STATES = {
        {""},
        {"ppk000"},
        {"pgt-01-12v1k100", "row 1 0", "row 2 9", "row 0 2", "lay 0 0 1", "lead 1", "drop 0", "keep 0", "lead 2"},
        {"pgtbmcbp-01-12-23-34-45-56-67-70-13v0v1v4v7k993", "row 0 40", "row 1 8", "lay 1 0 1", "text 1 80", "lots 20 5", "fool 3 0",
            "fool 5 2", "fool 0 1", "fool 4 0", "keep 1", "hours 1", "lots 10 7", "keep 2"},
    };

    private static Pair pair = null;

    private GridTest() {
    }

    public static void main(String[] args) {
        for (int state = 0; state < STATES.length; state++) {
            Due.about("state " + state + ": ");
            pair = made(STATES[state]);
            for (Method method : Pair.face()) {
                int size = method.getParameterCount();
                grid(STATES[state], method.getName(), size < 3 ? MANY : size == 3 ? SOME : FEW, new int[size], 0);
            }
        }
        Due.end();
    }

    private static void grid(String[] state, String name, int[] values, int[] chosen, int at) {
        if (at < chosen.length) {
            for (int value : values) {
                chosen[at] = value;
                grid(state, name, values, chosen, at + 1);
            }
            return;
        }
        // only what was not refused can have changed the state
        if (!pair.compare(name, chosen) || pair.latest() >= 0) {
            pair = made(state);
        }
    }

    private static Pair made(String[] state) {
        Pair made = new Pair();
        if (!state[0].isEmpty()) {
            made.write(0, state[0]);
            made.compare("wood", 0);
        }
        for (int i = 1; i < state.length; i++) {
            String[] words = state[i].split(" ");
            int[] values = new int[words.length - 1];
            for (int k = 0; k < values.length; k++) {
                values[k] = Integer.parseInt(words[k + 1]);
            }
            made.compare(words[0], values);
        }
        return made;
    }
}
