import java.util.Arrays;
import java.util.Map;
import java.util.TreeMap;

/**
 * The document's own words, so that each test of an edge names the sentence that it is about.
 * A sentence that does not stand there is wrong, and so are words of it that no test has named.
 */
final class Sentences {
    static final int CALLS = -1, TERMS = 0, PROMISES = 48;

    /** One part of the document, and which of its signs a test has named. */
    private static final class Part {
        final String text;
        final boolean[] named;

        Part(String text) {
            this.text = text;
            named = new boolean[text.length()];
        }

        /** Names a sentence where it stands first and is not named yet. */
        boolean name(String sentence) {
            int first = text.indexOf(sentence);
            int at = first;
            while (at >= 0 && named[at]) {
                at = text.indexOf(sentence, at + 1);
            }
            if (at >= 0) {
                Arrays.fill(named, at, at + sentence.length(), true);
            }
            return first >= 0;
        }

        String left() {
            StringBuilder left = new StringBuilder();
            for (int i = 0; i < text.length(); i++) {
                left.append(named[i] ? "" : text.charAt(i));
            }
            return left.toString();
        }
    }

    private static Map<Integer, Part> parts = null;

    private Sentences() {
    }

    /** What the answers behind this are about. */
    static void says(int part, String sentence) {
        Due.about((part == TERMS ? "Terms" : part == CALLS ? "What it is" : "Promise " + part) + ", \"" + sentence + "\": ");
        boolean stands = parts().containsKey(part) && parts().get(part).name(folded(sentence));
        Due.is("the document says so", stands ? 1 : 0, 1);
    }

    static void checkAllNamed() {
        Due.about("");
        Due.is("parts of the document", parts().size(), PROMISES + 2);
        for (Map.Entry<Integer, Part> entry : parts().entrySet()) {
            String left = entry.getValue().left();
            Due.is("part " + entry.getKey() + ": no test names \"" + left.trim() + "\"", left.matches("(?s).*\\w.*") ? 1 : 0, 0);
        }
    }

    private static String folded(String text) {
        return text.replaceAll("\\s+", " ").trim();
    }

    private static Map<Integer, Part> parts() {
        if (parts == null) {
            parts = new TreeMap<>();
            Map<Integer, StringBuilder> texts = new TreeMap<>();
            int part = CALLS - 1;
            for (String line : Document.lines()) {
                if (line.startsWith("## ")) {
                    part = partOf(line);
                } else if (part >= CALLS && belongs(part, line)) {
                    texts.computeIfAbsent(part, p -> new StringBuilder()).append(withoutHead(line)).append(' ');
                }
            }
            texts.forEach((p, text) -> parts.put(p, new Part(folded(text.toString()))));
        }
        return parts;
    }

    private static int partOf(String heading) {
        if (heading.startsWith("## Promise ")) {
            return Integer.parseInt(heading.substring(11, heading.indexOf(':')));
        }
        return heading.equals("## Terms") ? TERMS : heading.equals("## What it is") ? CALLS : CALLS - 1;
    }

    /** Headings of the interface that say nothing of a call, and the tale at the beginning, are left out. */
    private static boolean belongs(int part, String line) {
        if (part == CALLS) {
            return line.startsWith("An object");
        }
        return !line.startsWith("```") && (!line.startsWith("Ahead of the calls") || line.contains("(aside"));
    }

    private static String withoutHead(String line) {
        return line.replaceFirst("^`[^`]*`: ", "").replaceFirst("^Ahead of the calls .* the interface says: ", "");
    }
}
