import java.io.IOException;
import java.lang.reflect.Field;
import java.lang.reflect.Modifier;
import java.nio.file.Files;
import java.nio.file.Path;
import java.util.List;
import java.util.regex.Matcher;
import java.util.regex.Pattern;

/** The rules of LANGUAGE.md that can be seen in the words of the source. */
public final class LanguageTest {
    private static final String SOURCE = "src/main/java/CrumbWood.java";
    private static final List<String> NOT_USED = List.of(
        "\\bthrow\\b", "\\btry\\b", "\\bcatch\\b", "\\bsynchronized\\b", "\\bassert\\b", "\\bpackage\\b", "\\bimport\\b",
        "->", "::", "\\bThread\\b", "\\bRandom\\b", "nanoTime", "currentTimeMillis", "Exact\\b", "\\bhashCode\\b",
        "\\btoString\\b", "@Override", "\\bstatic\\s*\\{", "\\bString\\b", "\\bdouble\\b", "\\bfloat\\b", "\\bprotected\\b");
    private static final List<String> LIBRARY = List.of("Integer.bitCount", "Math.min", "Math.max", "System.arraycopy");

    public static void main(String[] args) throws IOException {
        String source = Files.readString(Path.of(SOURCE));
        String code = source.replaceAll("(?s)/\\*.*?\\*/", "").replaceAll("//[^\n]*", "");
        for (String word : NOT_USED) {
            Due.is("the source has " + word, Pattern.compile(word).matcher(code).find() ? 1 : 0, 0);
        }
        for (char c : source.toCharArray()) {
            if (c > 126) {
                Due.is("a sign above 126", c, 126);
            }
        }
        library(code);
        methods(code);
        making(code);
        fields(CrumbWood.class);
        for (Class<?> inside : CrumbWood.class.getDeclaredClasses()) {
            fields(inside);
        }
        Matcher classes = Pattern.compile("\\b(class|enum|record|interface) [A-Z]").matcher(code);
        Due.is("at most twelve classes", classes.results().count() <= 12 ? 1 : 0, 1);
        Due.end();
    }

    /** Rule 12 by the shortest way: what is made is made in field initialisers and constructors, so that no call makes anything. */
    private static void making(String code) {
        for (String line : code.split("\n")) {
            if (line.matches(".*\\bnew\\b.*")) {
                boolean field = line.matches(" +private (final )?[\\w\\[\\]]+ \\w+ = new .*;");
                boolean constructor = line.matches(" +((rows|texts)\\[\\w] = new Strip|kept\\[\\w] = new Wood|cells = new int).*;");
                Due.is("it is made once: " + line.trim(), field || constructor ? 1 : 0, 1);
            }
        }
    }

    /** Rule 11: some twenty fields beside the constants. */
    private static void fields(Class<?> of) {
        int own = 0;
        for (Field field : of.getDeclaredFields()) {
            own += Modifier.isStatic(field.getModifiers()) ? 0 : 1;
        }
        Due.is(of.getSimpleName() + " has few fields", own <= 20 ? 1 : 0, 1);
    }

    private static void library(String code) {
        Matcher call = Pattern.compile("\\b(Integer|Long|Math|System|Arrays|Character)\\.(\\w+)").matcher(code);
        while (call.find()) {
            Due.is("library call " + call.group(), LIBRARY.contains(call.group()) ? 1 : 0, 1);
        }
    }

    private static void methods(String code) {
        Matcher head = Pattern.compile("(?m)^( {4,8})(?:[a-z]+ )*?[a-zA-Z\\[\\]]+ \\w+\\(([^)]*)\\) \\{$").matcher(code);
        while (head.find()) {
            int end = code.indexOf("\n" + head.group(1) + "}", head.end());
            long lines = code.substring(head.start(), end).lines().count();
            Due.is(head.group().trim() + " is short", lines <= 60 ? 1 : 0, 1);
            long parameters = head.group(2).isEmpty() ? 0 : head.group(2).chars().filter(c -> c == ',').count() + 1;
            Due.is(head.group().trim() + " has few parameters", parameters <= 7 ? 1 : 0, 1);
        }
    }
}
