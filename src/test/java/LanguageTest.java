import com.sun.source.tree.ClassTree;
import com.sun.source.tree.CompilationUnitTree;
import com.sun.source.tree.MethodTree;
import com.sun.source.tree.Tree;
import com.sun.source.tree.VariableTree;
import com.sun.source.util.JavacTask;
import java.io.File;
import java.io.IOException;
import java.io.UncheckedIOException;
import java.util.ArrayList;
import java.util.List;
import java.util.Set;
import java.util.TreeSet;
import javax.lang.model.element.Modifier;
import javax.tools.JavaCompiler;
import javax.tools.StandardJavaFileManager;
import javax.tools.ToolProvider;

/** The rules of LANGUAGE.md that can be told from the text of the class, by their numbers. */
public final class LanguageTest {
    private static final String FILE = "src/main/java/DecentLabels.java";
    private static final Set<String> NUMBERS = Set.of("int", "long", "short", "byte", "char", "boolean");
    private static final int MOST_FIELDS = 40;
    private static final int MOST_PARAMETERS = 7;
    private static final int MOST_LINES = 60;
    private static final int MOST_DEPTH = 6;

    private static final CompilationUnitTree UNIT = parse();
    private static final ClassTree CLASS = (ClassTree) UNIT.getTypeDecls().get(0);
    private static final Rules RULES = new Rules(CLASS);

    public static void main(String[] args) {
        Due.test("1: one class, without a package line, and no nested one", LanguageTest::oneClass);
        Due.test("2: numbers, booleans and one-dimensional arrays of them", LanguageTest::types);
        Due.test("3: nothing is imported, and only methods of the class are called", LanguageTest::noLibrary);
        Due.test("4: arrays are made in the fields' initialisers, and stay in them", LanguageTest::arrays);
        Due.test("5: static fields are constants of int or long", LanguageTest::staticFields);
        Due.test("2, 3, 4, 6: nothing of a kind that the rules leave out", () -> none("left out", RULES.leftOut));
        Due.test("8: no recursion", () -> none("calls itself", RULES.recursive()));
        Due.test("8: every loop is a counter against a bound", () -> none("loop", RULES.openLoops));
        Due.test("10: parameters, lines, depth and fields", LanguageTest::sizes);
        Due.test("10: no call stands inside the arguments of another", () -> none("call", RULES.callsInArguments));
        Due.end("LanguageTest");
    }

    private static CompilationUnitTree parse() {
        JavaCompiler compiler = ToolProvider.getSystemJavaCompiler();
        try (StandardJavaFileManager files = compiler.getStandardFileManager(null, null, null)) {
            JavacTask task = (JavacTask) compiler.getTask(null, files, null, null, null,
                files.getJavaFileObjects(new File(FILE)));
            return task.parse().iterator().next();
        } catch (IOException unreadable) {
            throw new UncheckedIOException(unreadable);
        }
    }

    private static void none(String what, Iterable<String> found) {
        Due.same(what, String.join("; ", found), "");
    }

    private static void oneClass() {
        Due.is("package line", UNIT.getPackageName() == null, true);
        Due.is("types of the file", UNIT.getTypeDecls().size(), 1);
        for (Tree member : CLASS.getMembers()) {
            boolean plain = member.getKind() == Tree.Kind.METHOD || member.getKind() == Tree.Kind.VARIABLE;
            Due.is(member.getKind() + " is a field or a method", plain, true);
        }
    }

    private static boolean isAllowed(String type) {
        return NUMBERS.contains(type.replaceFirst("\\[]$", ""));
    }

    private static void types() {
        for (VariableTree variable : RULES.variables) {
            Due.is(variable.getType() + " " + variable.getName(), isAllowed(variable.getType().toString()), true);
        }
        for (MethodTree method : RULES.methods) {
            String answer = String.valueOf(method.getReturnType());
            boolean constructor = method.getReturnType() == null;
            Due.is(answer + " " + method.getName(),
                constructor || answer.equals("void") || NUMBERS.contains(answer), true);
        }
    }

    private static void noLibrary() {
        Due.is("imports", UNIT.getImports().size(), 0);
        none("call of another class", RULES.foreignCalls());
        none("name of another class or object", RULES.selections);
    }

    private static List<VariableTree> fields(boolean isStatic) {
        List<VariableTree> fields = new ArrayList<>();
        for (Tree member : CLASS.getMembers()) {
            if (member instanceof VariableTree field
                && field.getModifiers().getFlags().contains(Modifier.STATIC) == isStatic) {
                fields.add(field);
            }
        }
        return fields;
    }

    private static void arrays() {
        Set<String> arrays = new TreeSet<>();
        for (VariableTree field : fields(false)) {
            if (field.getType().getKind() == Tree.Kind.ARRAY_TYPE) {
                arrays.add(field.getName().toString());
                Due.is(field.getName() + " is final", field.getModifiers().getFlags().contains(Modifier.FINAL), true);
                Due.is(field + " has a constant length",
                    field.getInitializer().toString().matches("new int\\[([1-9]\\d*|[A-Z_]+)]"), true);
            }
        }
        Due.is("arrays made, each in its field", RULES.arraysMade, arrays.size());
        none("array that is not indexed", RULES.bareNames(arrays));
    }

    private static void staticFields() {
        for (VariableTree field : fields(true)) {
            String type = field.getType().toString();
            Due.is(field + " is an int or long", type.equals("int") || type.equals("long"), true);
            Due.is(field + " is final", field.getModifiers().getFlags().contains(Modifier.FINAL), true);
            Due.is(field + " is a number", field.getInitializer().toString().matches("-?\\d+L?"), true);
        }
    }

    private static void sizes() {
        Due.is("fields beside constants: " + fields(false).size(), fields(false).size() <= MOST_FIELDS, true);
        for (MethodTree method : RULES.methods) {
            int parameters = method.getParameters().size();
            long lines = method.toString().strip().lines().count();
            Due.is(method.getName() + ", parameters: " + parameters, parameters <= MOST_PARAMETERS, true);
            Due.is(method.getName() + ", lines: " + lines, lines <= MOST_LINES, true);
        }
        // Without this, a recursive class would be measured for ever.
        if (RULES.recursive().isEmpty()) {
            for (String name : RULES.calls.keySet()) {
                Due.is(name + ", depth: " + RULES.depth(name), RULES.depth(name) <= MOST_DEPTH, true);
            }
        }
    }
}
