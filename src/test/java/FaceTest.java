import java.lang.reflect.Field;
import java.lang.reflect.Method;
import java.lang.reflect.Modifier;
import java.util.Arrays;
import java.util.TreeSet;

/** The public face: every constant, the constructor and every method of the document, and no other member that is not private. */
public final class FaceTest {
    private static final Checks CHECKS = new Checks();

    private FaceTest() {
    }

    public static void main(String[] arguments) throws ReflectiveOperationException {
        constants();
        methods();
        CHECKS.same("class", Modifier.toString(ListMachine.class.getModifiers()), "public final");
        CHECKS.same("constructors", Arrays.toString(ListMachine.class.getDeclaredConstructors()), "[public ListMachine()]");
        CHECKS.same("classes inside", ListMachine.class.getDeclaredClasses().length, 0);
        CHECKS.end();
    }

    private static void constants() throws ReflectiveOperationException {
        TreeSet<String> found = new TreeSet<>();
        for (Field field : ListMachine.class.getDeclaredFields()) {
            if (!Modifier.isPrivate(field.getModifiers())) {
                CHECKS.same(field.getName(), Modifier.toString(field.getModifiers()), "public static final");
                found.add(field.getType() + " " + field.getName() + " = " + field.get(null));
            }
        }
        TreeSet<String> due = new TreeSet<>(Arrays.asList("int BAD_ARG = -1000000001", "int FULL = -1000000002",
            "int NONE = -1000000003", "int LONG = -1000000004", "int DONE = 0", "int UNREADABLE = 1", "int TIRED = 2",
            "int UNBOUND = 3", "int SYNTAX = 4", "int NO_PROCEDURE = 5", "int ARGUMENTS = 6", "int TYPE = 7",
            "int FULL_UP = 8"));
        CHECKS.same("constants", found.toString(), due.toString());
    }

    private static void methods() {
        TreeSet<String> found = new TreeSet<>();
        for (Method method : ListMachine.class.getDeclaredMethods()) {
            if (!Modifier.isPrivate(method.getModifiers())) {
                found.add(method.toString().replace("ListMachine.", ""));
            }
        }
        TreeSet<String> due = new TreeSet<>(Arrays.asList("public int tokens(int,int,int,int)", "public int untoken()",
            "public void clear()", "public boolean reads()", "public int forms()", "public int run()",
            "public int items()", "public int kind(int)", "public int number(int)", "public int printed()",
            "public int output(int)", "public int counted()", "public int conses()", "public int entries()"));
        CHECKS.same("methods", found.toString(), due.toString());
    }
}
