import java.lang.reflect.Constructor;
import java.lang.reflect.Field;
import java.lang.reflect.Method;
import java.lang.reflect.Modifier;
import java.util.ArrayList;
import java.util.List;

/** The public face as the document writes it, and rule 1 of LANGUAGE.md: nothing else can be seen. */
public final class FaceTest {
    private static final int METHODS = 47, CONSTANTS = 6;

    public static void main(String[] args) throws ReflectiveOperationException {
        Due.is("public and final", CrumbWood.class.getModifiers(), Modifier.PUBLIC | Modifier.FINAL);
        methods();
        fields();
        Constructor<?>[] constructors = CrumbWood.class.getDeclaredConstructors();
        Due.is("constructors", constructors.length, 1);
        Due.is("its parameters", constructors[0].getParameterCount(), 0);
        Due.is("it is public", constructors[0].getModifiers(), Modifier.PUBLIC);
        for (Class<?> inside : CrumbWood.class.getDeclaredClasses()) {
            Due.is(inside + " is static", inside.getModifiers() & Modifier.STATIC, Modifier.STATIC);
            Due.is(inside + " is not public", inside.getModifiers() & (Modifier.PUBLIC | Modifier.PROTECTED), 0);
        }
        Due.end();
    }

    private static void methods() {
        List<String> want = new ArrayList<>();
        List<String> names = new ArrayList<>();
        for (String line : Document.methods()) {
            // the names of parameters are free
            want.add(line.replaceAll("(int|long) \\w+(?=[,)])", "$1").replace(", ", ","));
            names.add(line.substring(line.indexOf(' ') + 1, line.indexOf('(')));
        }
        Due.is("methods of the document's face", want.size(), METHODS);
        for (Method method : CrumbWood.class.getDeclaredMethods()) {
            if (Modifier.isPrivate(method.getModifiers())) {
                Due.is("private " + method.getName(), names.contains(method.getName()) ? 1 : 0, 0);
                continue;
            }
            StringBuilder line = new StringBuilder(method.getReturnType() + " " + method.getName() + "(");
            for (Class<?> type : method.getParameterTypes()) {
                line.append(line.charAt(line.length() - 1) == '(' ? "" : ",").append(type);
            }
            line.append(')');
            Due.is("public " + line, want.remove(line.toString()) ? 1 : 0, 1);
            Due.is(line + " is public alone", method.getModifiers(), Modifier.PUBLIC);
        }
        Due.is("missing " + want, want.size(), 0);
        for (Class<?> inside : CrumbWood.class.getDeclaredClasses()) {
            for (Method method : inside.getDeclaredMethods()) {
                Due.is(inside + " " + method.getName(), names.contains(method.getName()) ? 1 : 0, 0);
            }
        }
    }

    private static void fields() throws ReflectiveOperationException {
        List<String> seen = new ArrayList<>();
        for (Field field : CrumbWood.class.getDeclaredFields()) {
            if (!Modifier.isPrivate(field.getModifiers())) {
                seen.add(field.getName());
            }
            if (Modifier.isStatic(field.getModifiers())) {
                Due.is("static " + field.getName() + " is final", Modifier.isFinal(field.getModifiers()) ? 1 : 0, 1);
            }
        }
        List<String> constants = Document.constants();
        Due.is("constants of the document's face", constants.size(), CONSTANTS);
        Due.is("fields " + seen, seen.size(), CONSTANTS);
        for (String constant : constants) {
            String[] words = constant.split(" = ");
            Field field = CrumbWood.class.getDeclaredField(words[0]);
            Due.is(words[0], field.getInt(null), Integer.parseInt(words[1]));
            Due.is(words[0] + " is public, static and final", field.getModifiers(),
                Modifier.PUBLIC | Modifier.STATIC | Modifier.FINAL);
        }
    }
}
