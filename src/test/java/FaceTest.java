import java.lang.reflect.Constructor;
import java.lang.reflect.Field;
import java.lang.reflect.Method;
import java.lang.reflect.Modifier;
import java.util.Arrays;
import java.util.Set;
import java.util.TreeSet;

/** The public face of the document, rule 1 of LANGUAGE.md, and the constants. */
public final class FaceTest {
    private static final String HEADING = "The public face";
    private static final String[] FACE = {
        "boolean forget(int)", "boolean wall(int, boolean)", "int begin()", "int command(int, int, int, int)",
        "int entries()", "int number(int)", "int order(int)", "int path(int, int)", "int points(int)",
        "int replay()", "int run(int)", "int steps(int, int)", "int tile(int)", "int unit(int, int)", "int winner()",
    };

    public static void main(String[] args) {
        Check check = new Check();
        constants(check);
        meaningOfConstants(check);
        members(check);
        names(check);
        check.end();
    }

    private static void constants(Check check) {
        check.sentence(HEADING, "public static final int BAD = -1;");
        check.due("BAD", LockstepField.BAD, -1);
        check.sentence(HEADING, "public static final int FULL = -2;");
        check.due("FULL", LockstepField.FULL, -2);
        check.sentence(HEADING, "public static final int EARLY = -3;");
        check.due("EARLY", LockstepField.EARLY, -3);
    }

    private static void meaningOfConstants(Check check) {
        check.sentence("Terms, the constants", "`FULL = -2`: No room.");
        LockstepField units = Scene.set(0, 1, 2, 3, 4, 5, 6, 7);
        check.due("for a unit", units.unit(0, 8), -2);
        LockstepField field = Scene.begun(0);
        for (int i = 0; i < 10; i++) {
            field.run(20);
        }
        check.due("for a tick", field.run(1), -2);
        for (int k = 0; k < 24; k++) {
            field.command(200, 0, Scene.STOP, 0);
        }
        check.due("for an entry", field.command(200, 0, Scene.STOP, 0), -2);
        check.sentence("Terms, the constants", "`EARLY = -3`: The play has begun, or has not.");
        check.due("has begun, unit", field.unit(0, 1), -3);
        check.due("has begun, begin", field.begin(), -3);
        check.due("has not, command", units.command(0, 0, Scene.STOP, 0), -3);
        check.due("has not, run", units.run(1), -3);
    }

    private static void members(Check check) {
        check.sentence(HEADING, "public final class LockstepField");
        Class<?> face = LockstepField.class;
        check.due("class is public and final", face.getModifiers(), Modifier.PUBLIC | Modifier.FINAL);
        Set<String> methods = new TreeSet<>();
        for (Method method : face.getDeclaredMethods()) {
            if (!Modifier.isPrivate(method.getModifiers())) {
                check.due(method + " is public alone", method.getModifiers(), Modifier.PUBLIC);
                methods.add(method.getReturnType() + " " + method.getName() + parameters(method));
            }
        }
        Set<String> due = new TreeSet<>(Arrays.asList(FACE));
        check.due("methods " + methods, methods.equals(due), true);
        Set<String> constants = new TreeSet<>();
        for (Field field : face.getDeclaredFields()) {
            if (!Modifier.isPrivate(field.getModifiers())) {
                constants.add(field.toString());
            }
        }
        check.due("constants " + constants, constants.toString().equals("[public static final int LockstepField.BAD, "
            + "public static final int LockstepField.EARLY, public static final int LockstepField.FULL]"), true);
        Constructor<?>[] makers = face.getDeclaredConstructors();
        check.due("constructors", makers.length, 1);
        check.due("constructor's parameters", makers[0].getParameterCount(), 0);
        check.due("constructor is public", makers[0].getModifiers(), Modifier.PUBLIC);
    }

    private static String parameters(Method method) {
        StringBuilder text = new StringBuilder("(");
        for (Class<?> type : method.getParameterTypes()) {
            text.append(text.length() > 1 ? ", " : "").append(type);
        }
        return text.append(")").toString();
    }

    /** No private method, and none of a class inside, bears the name of a public one. */
    private static void names(Check check) {
        check.sentence("LANGUAGE.md, rule 1", "No private method bears the name of a public one.");
        Set<String> taken = new TreeSet<>();
        for (String method : FACE) {
            taken.add(method.substring(method.indexOf(' ') + 1, method.indexOf('(')));
        }
        for (Method method : LockstepField.class.getDeclaredMethods()) {
            boolean inner = Modifier.isPrivate(method.getModifiers());
            check.due(method + " is named anew", inner && taken.contains(method.getName()), false);
        }
        for (Class<?> inside : LockstepField.class.getDeclaredClasses()) {
            check.due(inside + " is static", Modifier.isStatic(inside.getModifiers()), true);
            check.due(inside + " is public", Modifier.isPublic(inside.getModifiers()), false);
            for (Method method : inside.getDeclaredMethods()) {
                check.due(method + " is named anew", taken.contains(method.getName()), false);
            }
        }
    }
}
