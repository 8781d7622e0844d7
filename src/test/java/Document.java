import java.io.IOException;
import java.io.UncheckedIOException;
import java.nio.file.Files;
import java.nio.file.Path;
import java.util.ArrayList;
import java.util.List;

/** The project's pages, line by line, and what the document says in fixed places. */
final class Document {
    private static final Path DOCUMENT = Path.of("../shared/DOC.md");

    private Document() {
    }

    static List<String> lines() {
        return linesOf(DOCUMENT);
    }

    static List<String> linesOf(Path page) {
        try {
            return Files.readAllLines(page);
        } catch (IOException failed) {
            throw new UncheckedIOException(failed);
        }
    }

    /** The lines of all fenced blocks of a language, in their order. */
    static List<String> blocks(List<String> page, String language) {
        List<String> found = new ArrayList<>();
        boolean inside = false;
        for (String line : page) {
            if (line.startsWith("```")) {
                inside = !inside && line.equals("```" + language);
            } else if (inside) {
                found.add(line);
            }
        }
        return found;
    }

    /** The methods of the public face as they are written there: "int at(int r, int i)". */
    static List<String> methods() {
        List<String> methods = new ArrayList<>();
        for (String line : blocks(lines(), "java")) {
            if (line.matches(" +public \\w+ \\w+\\(.*\\);")) {
                methods.add(line.trim().replaceFirst("public ", "").replace(";", ""));
            }
        }
        return methods;
    }

    /** The constants of the public face as they are written there: "BAD = -1". */
    static List<String> constants() {
        List<String> constants = new ArrayList<>();
        for (String line : blocks(lines(), "java")) {
            if (line.contains(" static final int ")) {
                String list = line.substring(line.indexOf(" int ") + 5, line.indexOf(';'));
                constants.addAll(List.of(list.split(", ")));
            }
        }
        return constants;
    }

    /** What the promise of a method says. */
    static String promiseOf(String method) {
        for (String line : lines()) {
            if (line.startsWith("`" + method + "`: ")) {
                return line.substring(line.indexOf("`: ") + 3);
            }
        }
        return "";
    }
}
