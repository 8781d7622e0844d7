import java.lang.reflect.InvocationTargetException;
import java.util.ArrayList;
import java.util.List;
import java.util.Map;
import java.util.regex.Matcher;
import java.util.regex.Pattern;

/**
 * A run of calls on one new object, a call with its answer on each line or between semicolons:
 * "at(0, 1) = 1 : 7" (asked() is 7 then), "odds() = 1 : 3/4" (upper(), lower()), "row(0, 41) = BAD",
 * "at(0, 9) = BEYOND" (a FINDING). And what makes a line short: wood "ppk000" (TEXT 0, and a WOOD by it),
 * text 1 "pp", row 0: 1 2, cells 0: 1 2 (just these are in it), lead: 1 2, 20 times fool(0, 1).
 * Behind each call, what it has to leave as it was is looked at too.
 */
final class Script {
    private static final List<String> TELL_BY_ASKED = List.of(
        "lay", "at", "mean", "place", "bird", "here", "home", "nearest", "fewest", "surest", "ways");
    private static final List<String> TELL_CHANCES = List.of("odds", "best");
    private static final List<String> CHANGE = List.of(
        "row", "lay", "tear", "copy", "text", "put", "wood", "path", "lead", "drop", "fool", "take", "hours", "led", "keep",
        "on", "back", "lots");
    private static final Map<String, Integer> REFUSALS = Map.of("BAD", -1, "FULL", -2, "STATE", -4);
    private static final List<String> FINDINGS = List.of("", "NOTHING", "BEYOND", "UNLIKE", "NOUGHT", "SIZE");
    private static final Pattern CALL = Pattern.compile("(\\w+)\\(([^)]*)\\)");
    private static final Pattern LINE = Pattern.compile("(\\w+\\([^)]*\\)) = (\\S+)(?: : (\\S+))?");

    private final CrumbWood x;
    private final List<String> done = new ArrayList<>();

    private Script(CrumbWood x) {
        this.x = x;
    }

    static CrumbWood run(String lines) {
        return on(new CrumbWood(), lines);
    }

    static CrumbWood on(CrumbWood x, String lines) {
        Script script = new Script(x);
        for (String line : lines.split("[\n;]")) {
            String bare = line.replaceFirst("#.*", "").trim();
            if (!bare.isEmpty()) {
                script.step(bare);
                script.done.add(bare);
            }
        }
        return x;
    }

    /** A call by its words; what it throws is an answer that can't be due. */
    static long call(CrumbWood x, String words) {
        Matcher call = CALL.matcher(words);
        if (!call.matches()) {
            throw new IllegalArgumentException("no call: " + words);
        }
        String[] numbers = call.group(2).isBlank() ? new String[0] : call.group(2).split(",");
        Object[] values = new Object[numbers.length];
        for (int i = 0; i < values.length; i++) {
            values[i] = Integer.valueOf(numbers[i].trim());
        }
        try {
            return ((Number) Pair.named(call.group(1)).invoke(x, values)).longValue();
        } catch (InvocationTargetException thrown) {
            System.out.println(words + " threw " + thrown.getCause());
            return Long.MIN_VALUE;
        } catch (IllegalAccessException closed) {
            throw new IllegalStateException(closed);
        }
    }

    private void step(String line) {
        Matcher told = LINE.matcher(line);
        if (told.matches()) {
            answer(told.group(1), told.group(2), told.group(3));
        } else if (line.matches("wood \".*\"")) {
            Due.write(x, 0, quoted(line));
            Due.is(line + " has PLACES", x.wood(0) >= 2 ? 1 : 0, 1);
        } else if (line.matches("text \\d \".*\"")) {
            Due.write(x, line.charAt(5) - '0', quoted(line));
        } else if (line.matches("row \\d:.*")) {
            Due.lay(x, line.charAt(4) - '0', numbers(line));
        } else if (line.matches("cells \\d:.*")) {
            cells(line.charAt(6) - '0', numbers(line));
        } else if (line.startsWith("lead:")) {
            Due.lead(x, numbers(line));
        } else if (line.matches("\\d+ times .*")) {
            times(Integer.parseInt(line.substring(0, line.indexOf(' '))), line.substring(line.indexOf("times ") + 6));
        } else {
            throw new IllegalArgumentException("no line: " + line);
        }
    }

    private static String quoted(String line) {
        return line.substring(line.indexOf('"') + 1, line.lastIndexOf('"'));
    }

    private static int[] numbers(String line) {
        String list = line.substring(line.indexOf(':') + 1).trim();
        String[] words = list.isEmpty() ? new String[0] : list.split(" +");
        int[] numbers = new int[words.length];
        for (int i = 0; i < words.length; i++) {
            numbers[i] = Integer.parseInt(words[i]);
        }
        return numbers;
    }

    private void cells(int r, int[] cells) {
        Due.cells(done + " cells", x, r, cells);
    }

    private void times(int n, String words) {
        for (int i = 0; i < n; i++) {
            Due.is(words + " goes on", call(x, words) >= 0 ? 1 : 0, 1);
        }
    }

    private void answer(String words, String want, String tells) {
        String name = words.substring(0, words.indexOf('('));
        String label = done + " " + words;
        long[] before = told();
        long got = call(x, words);
        long[] after = told();
        int finding = FINDINGS.indexOf(want);
        Due.is(label, got, number(want));
        boolean refused = finding > 0 || REFUSALS.containsKey(want);
        boolean mayTell = !refused && (got != CrumbWood.NONE || name.equals("ways"));
        Due.is(label + " finding()", after[4], finding > 0 ? finding : before[4]);
        for (int f = 1; f <= 5; f++) {
            Due.is(label + " findings(" + f + ")", after[4 + f], before[4 + f] + (f == finding ? 1 : 0));
        }
        if (refused || !CHANGE.contains(name)) {
            Due.is(label + " leaves digest()", after[0], before[0]);
        }
        if (!mayTell || !TELL_BY_ASKED.contains(name)) {
            Due.is(label + " leaves asked()", after[1], before[1]);
        }
        if (!mayTell || !TELL_CHANCES.contains(name)) {
            Due.is(label + " leaves upper()", after[2], before[2]);
            Due.is(label + " leaves lower()", after[3], before[3]);
        }
        if (tells != null) {
            tells(label, tells, after);
        }
    }

    private static void tells(String label, String tells, long[] after) {
        int by = tells.indexOf('/');
        if (by < 0) {
            Due.is(label + " asked()", after[1], number(tells));
        } else {
            Due.is(label + " upper()", after[2], Long.parseLong(tells.substring(0, by)));
            Due.is(label + " lower()", after[3], Long.parseLong(tells.substring(by + 1)));
        }
    }

    private static long number(String want) {
        if (FINDINGS.indexOf(want) > 0) {
            return CrumbWood.FINDING;
        }
        if (REFUSALS.containsKey(want)) {
            return REFUSALS.get(want);
        }
        return want.equals("NONE") ? -9 : Long.parseLong(want);
    }

    private long[] told() {
        long[] told = new long[10];
        told[0] = x.digest();
        told[1] = x.asked();
        told[2] = x.upper();
        told[3] = x.lower();
        told[4] = x.finding();
        for (int f = 1; f <= 5; f++) {
            told[4 + f] = x.findings(f);
        }
        return told;
    }
}
