import java.lang.reflect.Constructor;
import java.lang.reflect.Field;
import java.lang.reflect.Member;
import java.lang.reflect.Method;
import java.lang.reflect.Modifier;
import java.util.Arrays;
import java.util.Set;
import java.util.TreeSet;

/** The public face: these members and no other that is not private. */
public final class FaceTest {
    private static final String[] METHODS = {
        "boolean setActsFor(int, int, boolean)", "boolean actsFor(int, int)",
        "boolean setPolicy(int, int, int)", "int getPolicy(int, int)", "boolean canRead(int, int)",
        "boolean setAuthority(int)", "boolean setInput(int, int)", "int addStmt(int, int, int, int)",
        "void clearProgram()", "int getStmt(int, int)", "int check()", "boolean start()", "int run(int)",
        "int getValue(int)", "int outCount(int)", "int outValue(int, int)"};
    private static final String[] CONSTANTS = {
        "VARS=16", "CHANNELS=4", "TARGET_CHANNEL=16", "TARGETS=20", "OUT_CAP=16", "MAX_DEPTH=8",
        "K_SET=1", "K_MOVE=2", "K_ADD=3", "K_SUB=4", "K_MUL=5", "K_LESS=6", "K_EQUAL=7", "K_IF=8",
        "K_ELSE=9", "K_END=10", "K_WHILE=11", "K_OUT=12", "K_DECLASSIFY=13",
        "ERR_STRUCTURE=1", "ERR_DEPTH=2", "ERR_FLOW=3", "ERR_AUTHORITY=4", "ERR_UNCLOSED=5",
        "ST_UNCHECKED=0", "ST_READY=1", "ST_RUNNING=2", "ST_HALTED=3",
        "SLOT_INPUT=16", "SLOT_AUTHORITY=32", "SLOT_LENGTH=33", "SLOT_POSITION=34", "SLOT_STATUS=35",
        "SLOT_CHECK=36"};

    public static void main(String[] args) {
        Due.test("one class, public and final", () -> {
            Due.is("modifiers", DecentLabels.class.getModifiers(), Modifier.PUBLIC | Modifier.FINAL);
            Due.is("nested classes", DecentLabels.class.getDeclaredClasses().length, 0);
        });
        Due.test("the public methods", () -> Due.same("methods", methods(), sorted(METHODS)));
        Due.test("the public constants", () -> Due.same("constants", constants(), sorted(CONSTANTS)));
        Due.test("the public constructor", () -> {
            Constructor<?>[] constructors = DecentLabels.class.getDeclaredConstructors();
            Due.is("constructors", constructors.length, 1);
            Due.same("constructor", constructors[0].toString(), "public DecentLabels(int,int)");
        });
        Due.test("no private method bears the name of a public one", FaceTest::namesAreApart);
        Due.end("FaceTest");
    }

    private static Set<String> sorted(String[] names) {
        return new TreeSet<>(Arrays.asList(names));
    }

    private static boolean isPrivate(Member member) {
        return Modifier.isPrivate(member.getModifiers());
    }

    private static Set<String> methods() {
        Set<String> found = new TreeSet<>();
        for (Method m : DecentLabels.class.getDeclaredMethods()) {
            if (isPrivate(m)) {
                continue;
            }
            String parameters = Arrays.toString(m.getParameterTypes()).replace("[", "(").replace("]", ")");
            found.add(m.getReturnType() + " " + m.getName() + parameters);
            Due.is(m.getName() + " is public alone", m.getModifiers(), Modifier.PUBLIC);
        }
        return found;
    }

    private static void namesAreApart() {
        Set<String> names = new TreeSet<>();
        for (Method m : DecentLabels.class.getDeclaredMethods()) {
            if (!isPrivate(m)) {
                names.add(m.getName());
            }
        }
        for (Method m : DecentLabels.class.getDeclaredMethods()) {
            Due.is(m.getName() + " is both", isPrivate(m) && names.contains(m.getName()), false);
        }
    }

    private static Set<String> constants() {
        Set<String> found = new TreeSet<>();
        for (Field f : DecentLabels.class.getDeclaredFields()) {
            if (isPrivate(f)) {
                continue;
            }
            Due.is(f.getName() + " is a public constant", f.getModifiers(),
                Modifier.PUBLIC | Modifier.STATIC | Modifier.FINAL);
            found.add(f.getName() + "=" + valueOf(f));
        }
        return found;
    }

    private static int valueOf(Field constant) {
        try {
            return constant.getInt(null);
        } catch (IllegalAccessException impossible) {
            throw new IllegalStateException(impossible);
        }
    }
}
