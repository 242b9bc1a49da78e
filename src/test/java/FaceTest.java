import java.lang.reflect.Constructor;
import java.lang.reflect.Field;
import java.lang.reflect.Method;
import java.lang.reflect.Modifier;
import java.util.Set;
import java.util.TreeSet;

/** 'The public face' and the constants: just those of the document, and all else private. */
public final class FaceTest {
    private static final String[] METHODS = {
        "boolean dimension(int,int,int)", "boolean parameters(int,int)", "boolean common(int,int,int)",
        "boolean equivalence(int,int,int)", "boolean statement(int,int,int,int)", "boolean operand(int)",
        "int compile()", "int run(int)", "int output(int)", "int value(int,int)",
        "boolean aliased(int,int,int,int)", "int query(int,int,int)",
    };
    private static final String[] CONSTANTS = {
        "K_ASSIGN=1", "K_IF=2", "K_GOTO=3", "K_DO=4", "K_CALL=5", "K_PRINT=6", "K_CONTINUE=7", "K_RETURN=8", "K_STOP=9",
        "OP_ADD=0", "OP_SUB=1", "OP_MUL=2", "OP_DIV=3",
        "C_OK=1", "C_INCOMPLETE=2", "C_DUMMY=3", "C_INDEX=4", "C_CONFLICT=5", "C_BACKWARD=6", "C_LABEL=7", "C_CALL=8",
        "RUN_REFUSED=0", "RUN_DONE=1", "RUN_STEPS=2", "RUN_INDEX=3", "RUN_DIVZERO=4", "RUN_ZEROSTEP=5",
        "RUN_RECURSION=6", "RUN_OUTPUT_FULL=7",
        "Q_LENGTH=1", "Q_PARAMS=2", "Q_COMMON=3", "Q_EQUIV=4", "Q_STMT=5", "Q_PENDING=6", "Q_COMPILED=7",
        "Q_EXTENT=8", "Q_RUN=9", "Q_STEPS=10", "Q_OUTPUTS=11",
    };

    public static void main(String[] args) throws IllegalAccessException {
        Class<?> c = FortranStatic.class;
        Check check = new Check();
        check.due("the class is public and final", c.getModifiers(), Modifier.PUBLIC | Modifier.FINAL);
        Set<String> methods = new TreeSet<>();
        for (Method method : c.getDeclaredMethods()) {
            if (!Modifier.isPrivate(method.getModifiers())) {
                check.due(method + " is just public", method.getModifiers() & ~Modifier.FINAL, Modifier.PUBLIC);
                methods.add(method.toString().replace("public ", "").replace("final ", "").replace("FortranStatic.", ""));
            }
        }
        same(check, "methods", methods, METHODS);
        Set<String> constants = new TreeSet<>();
        for (Field field : c.getDeclaredFields()) {
            if (!Modifier.isPrivate(field.getModifiers())) {
                check.due(field + " is a constant", field.getModifiers(), Modifier.PUBLIC | Modifier.STATIC | Modifier.FINAL);
                constants.add(field.getName() + "=" + field.getInt(null));
            }
        }
        same(check, "constants", constants, CONSTANTS);
        Set<String> constructors = new TreeSet<>();
        for (Constructor<?> constructor : c.getDeclaredConstructors()) {
            constructors.add(constructor.toString());
        }
        same(check, "constructors", constructors, new String[] {"public FortranStatic(int,int)"});
        check.end();
    }

    private static void same(Check check, String what, Set<String> got, String[] due) {
        Set<String> want = new TreeSet<>(Set.of(due));
        check.due(what + " " + got + " against " + want, got.equals(want), true);
    }
}
