import java.io.IOException;
import java.net.URL;
import java.net.URLClassLoader;
import java.nio.file.Files;
import java.nio.file.Path;
import java.util.ArrayList;
import java.util.List;
import java.util.regex.Matcher;
import java.util.regex.Pattern;
import java.util.stream.Stream;
import javax.tools.ToolProvider;

/** README.md: its example, compiled and run call by call, and its tables against the document. */
public final class ReadmeTest {
    private static final List<String> PAGE = Document.linesOf(Path.of("README.md"));
    private static final Pattern ANSWERED = Pattern.compile("(x\\.\\w+\\(.*\\)); +// (-?\\d+|[A-Z]+)(: .+)?");
    private static final Pattern REFUSAL = Pattern.compile("\\b(BAD|FULL|STATE|SPENT|NOTHING|BEYOND|UNLIKE|NOUGHT|SIZE)\\b");

    private ReadmeTest() {
    }

    public static void main(String[] args) throws IOException, ReflectiveOperationException {
        example();
        Script.run(String.join("\n", Document.blocks(PAGE, "text")));
        calls();
        answers();
        kinds();
        tests();
        Due.end();
    }

    private static void example() throws IOException, ReflectiveOperationException {
        StringBuilder code = new StringBuilder("public final class Example { public static java.util.List<Long> run() {\n"
            + "java.util.List<Long> answers = new java.util.ArrayList<>();\n");
        List<Matcher> answered = new ArrayList<>();
        for (String line : Document.blocks(PAGE, "java")) {
            Matcher call = ANSWERED.matcher(line);
            if (call.matches()) {
                answered.add(call);
                code.append("answers.add((long) ").append(call.group(1)).append(");\n");
            } else {
                Due.is("README, an answer is told: " + line, line.startsWith("x.") ? 1 : 0, 0);
                code.append(line).append('\n');
            }
        }
        List<?> answers = run(code.append("return answers; } }\n").toString());
        Due.is("README, the example has calls", answered.size() > 20 ? 1 : 0, 1);
        Due.is("README, answers of the example", answers.size(), answered.size());
        for (int i = 0; i < Math.min(answered.size(), answers.size()); i++) {
            Due.is("README, " + answered.get(i).group(1), (Long) answers.get(i), numberOf(answered.get(i).group(2)));
        }
    }

    private static List<?> run(String code) throws IOException, ReflectiveOperationException {
        Path work = Files.createTempDirectory("readme");
        Path source = Files.writeString(work.resolve("Example.java"), code);
        int failed = ToolProvider.getSystemJavaCompiler().run(null, null, null,
            "-cp", System.getProperty("java.class.path"), "-d", work.toString(), source.toString());
        Due.is("README, the example compiles", failed, 0);
        List<?> answers = List.of();
        if (failed == 0) {
            try (URLClassLoader loader = new URLClassLoader(new URL[] {work.toUri().toURL()})) {
                answers = (List<?>) loader.loadClass("Example").getMethod("run").invoke(null);
            }
        }
        try (Stream<Path> files = Files.list(work)) {
            for (Path file : files.toList()) {
                Files.delete(file);
            }
        }
        Files.delete(work);
        return answers;
    }

    private static long numberOf(String answer) {
        for (String constant : Document.constants()) {
            if (constant.startsWith(answer + " = ")) {
                return Long.parseLong(constant.substring(constant.indexOf("= ") + 2));
            }
        }
        return Long.parseLong(answer);
    }

    /** The rows of a table, by cells, of which the first is a word between signs of code. */
    private static List<String[]> table(String heading) {
        List<String[]> rows = new ArrayList<>();
        int at = PAGE.indexOf(heading);
        Due.is("README, a table " + heading, at >= 0 ? 1 : 0, 1);
        for (int i = at + 2; at >= 0 && i < PAGE.size() && PAGE.get(i).startsWith("|"); i++) {
            String[] cells = PAGE.get(i).substring(1).split("\\|");
            for (int k = 0; k < cells.length; k++) {
                cells[k] = cells[k].trim();
            }
            rows.add(cells);
        }
        return rows;
    }

    /** All calls of the face in their order; what is refused, told by asked() or NONE, as their promises say. */
    private static void calls() {
        List<String> methods = Document.methods();
        List<String[]> rows = table("| call | answers | asked() | refused |");
        Due.is("README, calls", rows.size(), methods.size());
        for (int i = 0; i < Math.min(rows.size(), methods.size()); i++) {
            String[] row = rows.get(i);
            String method = methods.get(i);
            String promise = Document.promiseOf(method);
            Due.is("the document promises " + method, promise.isEmpty() ? 0 : 1, 1);
            String bare = method.replaceAll("\\b(int|long) ", "");
            same("README, call " + i, row[0], "`" + bare + "`");
            Due.is("README, cells of " + bare, row.length, 4);
            same("README, how it is refused: " + bare, row[3], refusals(promise));
            Due.is("README, NONE: " + bare, (row[1] + row[2]).contains("NONE") ? 1 : 0, promise.contains("NONE") ? 1 : 0);
            Due.is("README, told by asked(): " + bare, row[2].isEmpty() ? 0 : 1, tellsByAsked(bare) ? 1 : 0);
            Due.is("README, chances: " + bare, row[1].contains("`upper()`, `lower()`") ? 1 : 0,
                promise.contains("by upper(), lower()") ? 1 : 0);
        }
    }

    private static boolean tellsByAsked(String call) {
        String list = Document.promiseOf("int asked()");
        return Pattern.compile("\\b" + call.substring(0, call.indexOf('(')) + "\\(\\)").matcher(list).find();
    }

    private static String refusals(String text) {
        List<String> found = new ArrayList<>();
        Matcher word = REFUSAL.matcher(text);
        while (word.find()) {
            if (!found.contains(word.group())) {
                found.add(word.group());
            }
        }
        return String.join(", ", found);
    }

    private static void answers() {
        List<String[]> rows = table("| answer | | meaning |");
        Due.is("README, constants", rows.size(), Document.constants().size());
        for (int i = 0; i < Math.min(rows.size(), Document.constants().size()); i++) {
            String[] row = rows.get(i);
            same("README, constant " + i, row[0].replace("`", "") + " = " + row[1], Document.constants().get(i));
        }
    }

    /** Each KIND by its letter, with each choice of MARKS: what is SEEN there, as the table says. */
    private static void kinds() {
        List<String[]> rows = table("| letter | KIND | SEEN there from beside | besides |");
        Due.is("README, KINDS", rows.size(), 6);
        for (String[] row : rows) {
            for (int marks = 0; marks < 8; marks++) {
                CrumbWood x = Due.wood("p" + row[0].replace("`", "") + "k000");
                for (int m = 0; m < 3; m++) {
                    if ((marks >> m & 1) == 1) {
                        x.fool(1, m);
                    }
                }
                String label = "README, KIND " + row[1] + " with MARKS " + marks;
                Due.told(label, x, x.place(1, 0), row[1].charAt(0) - '0');
                Due.told(label + ", SEEN", x, x.place(1, 5), marks & visible(row[2]) | (row[2].contains("always a KNOT") ? 4 : 0));
            }
        }
    }

    private static int visible(String words) {
        int all = words.contains("all MARKS") ? 7 : 0;
        return all | (words.contains("STONES") ? 2 : 0) | (words.contains("KNOTS") ? 4 : 0);
    }

    private static void tests() throws IOException {
        String page = String.join("\n", PAGE);
        Due.is("README, how to run them", page.contains("\n.ci/run\n") ? 1 : 0, 1);
        try (Stream<Path> files = Files.list(Path.of("src/test/java"))) {
            for (Path file : files.toList()) {
                String name = file.getFileName().toString().replace(".java", "");
                if (name.endsWith("Test")) {
                    Due.is("README, " + name + " is named", page.contains("`" + name + "`") ? 1 : 0, 1);
                }
            }
        }
    }

    private static void same(String what, String got, String want) {
        Due.is(what + " \"" + got + "\", in the document \"" + want + "\"", got.equals(want) ? 1 : 0, 1);
    }
}
