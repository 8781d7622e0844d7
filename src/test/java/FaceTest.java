import java.lang.reflect.Constructor;
import java.lang.reflect.Field;
import java.lang.reflect.Method;
import java.lang.reflect.Modifier;
import java.util.ArrayList;
import java.util.Collections;
import java.util.List;

/** The public face as the document tells it, and rule 1 of LANGUAGE.md: nothing else can be seen. */
public final class FaceTest {
    private static final String[] FACE = {
        "int row(int,int)", "int lay(int,int,int)", "int at(int,int)", "int tear(int)", "int copy(int,int,int,int,int)",
        "int mean(int)", "int text(int,int)", "int put(int,int,int)", "int fault(int)", "int wood(int)",
        "int place(int,int)", "int mark(int,int)", "int path(int,int,int)", "int bird(int)", "int pocket(int)",
        "int lead(int)", "int drop(int)", "int fool(int,int)", "int take(int,int)", "int hours(int)", "int here()",
        "int led(int)", "int keep(int)", "int on(int)", "int home()", "int back(int)", "int wrong()", "int waits()",
        "int nearest()", "int fewest(int,int)", "int surest(int,int)", "int astray()", "int helps()", "int odds()",
        "int best()", "int ways(int)", "int sure(int)", "int was(int,int)", "int bare()", "int lots(int,int)",
        "int asked()", "long upper()", "long lower()", "int count(int)", "int finding()", "int findings(int)",
        "long digest()"
    };
    private static final String[] CONSTANTS = {"BAD", "FULL", "FINDING", "STATE", "SPENT", "NONE"};
    private static final int[] VALUES = {-1, -2, -3, -4, -6, -9};

    public static void main(String[] args) throws ReflectiveOperationException {
        Due.is("public and final", CrumbWood.class.getModifiers(), Modifier.PUBLIC | Modifier.FINAL);
        methods();
        fields();
        Constructor<?>[] constructors = CrumbWood.class.getDeclaredConstructors();
        Due.is("constructors", constructors.length, 1);
        Due.is("its parameters", constructors[0].getParameterCount(), 0);
        Due.is("it is public", constructors[0].getModifiers(), Modifier.PUBLIC);
        for (Class<?> inside : CrumbWood.class.getDeclaredClasses()) {
            Due.is(inside + " is static", inside.getModifiers() & Modifier.STATIC, Modifier.STATIC);
            Due.is(inside + " is not public", inside.getModifiers() & (Modifier.PUBLIC | Modifier.PROTECTED), 0);
        }
        Due.end();
    }

    private static void methods() {
        List<String> want = new ArrayList<>(List.of(FACE));
        List<String> names = new ArrayList<>();
        for (String line : FACE) {
            names.add(line.substring(line.indexOf(' ') + 1, line.indexOf('(')));
        }
        for (Method method : CrumbWood.class.getDeclaredMethods()) {
            if (Modifier.isPrivate(method.getModifiers())) {
                Due.is("private " + method.getName(), names.contains(method.getName()) ? 1 : 0, 0);
                continue;
            }
            StringBuilder line = new StringBuilder(method.getReturnType() + " " + method.getName() + "(");
            for (Class<?> type : method.getParameterTypes()) {
                line.append(line.charAt(line.length() - 1) == '(' ? "" : ",").append(type);
            }
            line.append(')');
            Due.is("public " + line, want.remove(line.toString()) ? 1 : 0, 1);
            Due.is(line + " is public alone", method.getModifiers(), Modifier.PUBLIC);
        }
        Due.is("missing " + want, want.size(), 0);
        for (Class<?> inside : CrumbWood.class.getDeclaredClasses()) {
            for (Method method : inside.getDeclaredMethods()) {
                Due.is(inside + " " + method.getName(), names.contains(method.getName()) ? 1 : 0, 0);
            }
        }
    }

    private static void fields() throws ReflectiveOperationException {
        List<String> seen = new ArrayList<>();
        for (Field field : CrumbWood.class.getDeclaredFields()) {
            if (!Modifier.isPrivate(field.getModifiers())) {
                seen.add(field.getName());
            }
            if (Modifier.isStatic(field.getModifiers())) {
                Due.is("static " + field.getName() + " is final", Modifier.isFinal(field.getModifiers()) ? 1 : 0, 1);
            }
        }
        Collections.sort(seen);
        List<String> want = new ArrayList<>(List.of(CONSTANTS));
        Collections.sort(want);
        Due.is("fields " + seen, seen.equals(want) ? 1 : 0, 1);
        for (int i = 0; i < CONSTANTS.length; i++) {
            Due.is(CONSTANTS[i], CrumbWood.class.getDeclaredField(CONSTANTS[i]).getInt(null), VALUES[i]);
        }
    }
}
