import java.lang.reflect.Constructor;
import java.lang.reflect.Field;
import java.lang.reflect.Method;
import java.lang.reflect.Modifier;
import java.util.Arrays;
import java.util.Set;
import java.util.TreeSet;

/** The class shows what the document's face has, and nothing else. */
public final class PublicFaceTest {
    private static final String[] CONSTANTS = {
        "K_BEGIN=1", "K_END=2", "K_VAR=3", "K_PROC=4", "K_PVAL=5", "K_PPROC=6", "K_SET=7", "K_PRINT=8", "K_GOTO=9",
        "K_LABEL=10", "K_CALL=11", "K_ARGV=12", "K_ARGP=13", "K_DONE=14", "K_IF=15", "K_ELSE=16", "K_FI=17",
        "K_NUM=18", "K_REF=19", "K_ADD=20", "K_SUB=21", "K_MUL=22", "K_DIV=23", "K_MOD=24", "K_LT=25", "K_EQ=26",
        "C_REFUSED=-1", "C_OK=0", "C_SYNTAX=1", "C_LIMIT=2", "C_NAME=3",
        "S_EDIT=0", "S_RUNNING=1", "S_DONE=2", "S_TRAP=3",
        "T_NONE=0", "T_DIV=1", "T_DEPTH=2", "T_ARGS=3", "T_OUTPUT=4",
        "MAX_TOKENS=256", "MAX_NAMES=16", "MAX_BODIES=16", "MAX_DECLS=8", "MAX_PARAMS=4", "MAX_OUTPUT=32",
        "MAX_FUEL=256", "MIN_DEPTH=1", "MAX_DEPTH=16"};

    private static final String[] METHODS = {
        "boolean token(int, int)", "int tokenCount()", "int compile()", "int run(int)", "int status()", "int trap()",
        "int executed()", "int depth()", "int outputCount()", "int output(int)", "int mainVar(int)", "int seen(int)",
        "void reset()"};

    public static void main(String[] args) throws Exception {
        same("constants", new TreeSet<>(Arrays.asList(CONSTANTS)), constants());
        same("methods", new TreeSet<>(Arrays.asList(METHODS)), methods());
        Constructor<?>[] made = NonLocalJump.class.getDeclaredConstructors();
        Harness.due("count of constructors", made.length, 1);
        Harness.due("the constructor is public", Modifier.isPublic(made[0].getModifiers()), true);
        Harness.due("the class is public and final",
            NonLocalJump.class.getModifiers() == (Modifier.PUBLIC | Modifier.FINAL), true);
        Harness.finish();
    }

    private static void same(String what, Set<String> want, Set<String> got) {
        if (!want.equals(got)) {
            System.out.println(what + " are " + got);
        }
        Harness.due(what + " are those of the document", want.equals(got), true);
    }

    private static Set<String> constants() throws Exception {
        Set<String> found = new TreeSet<>();
        for (Field field : NonLocalJump.class.getDeclaredFields()) {
            int modifiers = field.getModifiers();
            if (Modifier.isPrivate(modifiers)) {
                continue;
            }
            boolean constant = modifiers == (Modifier.PUBLIC | Modifier.STATIC | Modifier.FINAL);
            found.add(field.getName() + (constant ? "=" + field.getInt(null) : " is no public constant"));
        }
        return found;
    }

    private static Set<String> methods() {
        Set<String> found = new TreeSet<>();
        for (Method method : NonLocalJump.class.getDeclaredMethods()) {
            if (Modifier.isPrivate(method.getModifiers())) {
                continue;
            }
            String params = Arrays.toString(method.getParameterTypes()).replace("[", "(").replace("]", ")");
            String shown = method.getReturnType() + " " + method.getName() + params;
            found.add(method.getModifiers() == Modifier.PUBLIC ? shown : shown + " is not plainly public");
        }
        return found;
    }
}
