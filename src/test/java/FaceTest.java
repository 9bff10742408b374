import java.lang.reflect.Field;
import java.lang.reflect.Method;
import java.lang.reflect.Modifier;
import java.util.Arrays;
import java.util.Set;
import java.util.TreeSet;

/** The public face: all of it, and no other member that is not private. */
public final class FaceTest {
    private static final Set<String> METHODS = new TreeSet<>(Arrays.asList(
        "chalk(int)", "snip(int)", "sew(int)", "bluff(int)", "doubt(int)", "pass()",
        "of(int,int)", "cell(int,int)", "player(int,int)", "chalked(int,int)", "count(int)",
        "why(int)", "ifSnipped(int)", "bestSnip(int)", "weak()", "together(int,int,int)",
        "put(long)", "wipe()", "fault()", "carryOut()", "undo()", "save(int)", "restore(int)"));
    private static final String[] CONSTANTS = {"NO_SUCH", "BAD_VALUE", "BAD_TEXT", "TOO_MANY", "NOT_POSSIBLE", "NONE"};
    private static final Check CHECK = new Check("FaceTest");

    public static void main(String[] args) throws ReflectiveOperationException {
        int modifiers = TailorChalks.class.getModifiers();
        CHECK.isSo("public and final", Modifier.isPublic(modifiers) && Modifier.isFinal(modifiers));
        CHECK.isSo("one constructor", TailorChalks.class.getDeclaredConstructors().length == 1);
        CHECK.isSo("it is public", Modifier.isPublic(TailorChalks.class.getDeclaredConstructor().getModifiers()));
        constants();
        methods();
        nestedClasses();
        CHECK.end();
    }

    private static void constants() throws ReflectiveOperationException {
        for (int i = 0; i < CONSTANTS.length; i++) {
            Field field = TailorChalks.class.getField(CONSTANTS[i]);
            CHECK.due(CONSTANTS[i], field.getInt(null), -1 - i);
            CHECK.isSo(CONSTANTS[i] + " is a constant", Modifier.isFinal(field.getModifiers()));
        }
        int open = 0;
        for (Field field : TailorChalks.class.getDeclaredFields()) {
            open += Modifier.isPrivate(field.getModifiers()) ? 0 : 1;
        }
        CHECK.due("fields that are not private", open, CONSTANTS.length);
    }

    private static void methods() {
        Set<String> open = new TreeSet<>();
        Set<String> openNames = new TreeSet<>();
        for (Method method : TailorChalks.class.getDeclaredMethods()) {
            if (!Modifier.isPrivate(method.getModifiers())) {
                open.add(signature(method));
                openNames.add(method.getName());
                CHECK.isSo(method + " is public", Modifier.isPublic(method.getModifiers()));
                CHECK.isSo(method + " returns int", method.getReturnType() == int.class);
            }
        }
        CHECK.isSo("methods " + open, open.equals(METHODS));
        for (Method method : TailorChalks.class.getDeclaredMethods()) {
            CHECK.isSo(method + " has no public one's name",
                !Modifier.isPrivate(method.getModifiers()) || !openNames.contains(method.getName()));
        }
    }

    private static String signature(Method method) {
        StringBuilder parameters = new StringBuilder();
        for (Class<?> type : method.getParameterTypes()) {
            parameters.append(parameters.length() == 0 ? "" : ",").append(type.getName());
        }
        return method.getName() + "(" + parameters + ")";
    }

    private static void nestedClasses() {
        for (Class<?> nested : TailorChalks.class.getDeclaredClasses()) {
            CHECK.isSo(nested + " is static", Modifier.isStatic(nested.getModifiers()));
            CHECK.isSo(nested + " is hidden", !Modifier.isPublic(nested.getModifiers()));
        }
        CHECK.isSo("few classes", TailorChalks.class.getDeclaredClasses().length <= 12);
    }
}
