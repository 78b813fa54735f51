import java.lang.reflect.Constructor;
import java.lang.reflect.Field;
import java.lang.reflect.Method;
import java.lang.reflect.Modifier;
import java.util.Arrays;
import java.util.Set;
import java.util.TreeSet;

/** The public face of the document, rule 1 of LANGUAGE.md, and the constants. */
public final class FaceTest {
    private static final String[] FACE = {
        "boolean forget(int)", "boolean wall(int, boolean)", "int begin()", "int command(int, int, int, int)",
        "int entries()", "int number(int)", "int order(int)", "int path(int, int)", "int points(int)",
        "int replay()", "int run(int)", "int steps(int, int)", "int tile(int)", "int unit(int, int)", "int winner()",
    };

    public static void main(String[] args) {
        Check check = new Check();
        constants(check);
        members(check);
        names(check);
        check.end();
    }

    private static void constants(Check check) {
        check.due("BAD", LockstepField.BAD, -1);
        check.due("FULL", LockstepField.FULL, -2);
        check.due("EARLY", LockstepField.EARLY, -3);
    }

    private static void members(Check check) {
        Class<?> face = LockstepField.class;
        check.due("class is public and final", face.getModifiers(), Modifier.PUBLIC | Modifier.FINAL);
        Set<String> methods = new TreeSet<>();
        for (Method method : face.getDeclaredMethods()) {
            if (!Modifier.isPrivate(method.getModifiers())) {
                check.due(method + " is public alone", method.getModifiers(), Modifier.PUBLIC);
                methods.add(method.getReturnType() + " " + method.getName() + parameters(method));
            }
        }
        Set<String> due = new TreeSet<>(Arrays.asList(FACE));
        check.due("methods " + methods, methods.equals(due), true);
        Set<String> constants = new TreeSet<>();
        for (Field field : face.getDeclaredFields()) {
            if (!Modifier.isPrivate(field.getModifiers())) {
                constants.add(field.toString());
            }
        }
        check.due("constants " + constants, constants.toString().equals("[public static final int LockstepField.BAD, "
            + "public static final int LockstepField.EARLY, public static final int LockstepField.FULL]"), true);
        Constructor<?>[] makers = face.getDeclaredConstructors();
        check.due("constructors", makers.length, 1);
        check.due("constructor's parameters", makers[0].getParameterCount(), 0);
        check.due("constructor is public", makers[0].getModifiers(), Modifier.PUBLIC);
    }

    private static String parameters(Method method) {
        StringBuilder text = new StringBuilder("(");
        for (Class<?> type : method.getParameterTypes()) {
            text.append(text.length() > 1 ? ", " : "").append(type);
        }
        return text.append(")").toString();
    }

    /** No private method, and none of a class inside, bears the name of a public one. */
    private static void names(Check check) {
        Set<String> taken = new TreeSet<>();
        for (String method : FACE) {
            taken.add(method.substring(method.indexOf(' ') + 1, method.indexOf('(')));
        }
        for (Method method : LockstepField.class.getDeclaredMethods()) {
            boolean inner = Modifier.isPrivate(method.getModifiers());
            check.due(method + " is named anew", inner && taken.contains(method.getName()), false);
        }
        for (Class<?> inside : LockstepField.class.getDeclaredClasses()) {
            check.due(inside + " is static", Modifier.isStatic(inside.getModifiers()), true);
            check.due(inside + " is public", Modifier.isPublic(inside.getModifiers()), false);
            for (Method method : inside.getDeclaredMethods()) {
                check.due(method + " is named anew", taken.contains(method.getName()), false);
            }
        }
    }
}
