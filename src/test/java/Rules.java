import com.sun.source.tree.ArrayAccessTree;
import com.sun.source.tree.ClassTree;
import com.sun.source.tree.DoWhileLoopTree;
import com.sun.source.tree.ExpressionTree;
import com.sun.source.tree.ForLoopTree;
import com.sun.source.tree.IdentifierTree;
import com.sun.source.tree.MemberSelectTree;
import com.sun.source.tree.MethodInvocationTree;
import com.sun.source.tree.MethodTree;
import com.sun.source.tree.NewArrayTree;
import com.sun.source.tree.Tree;
import com.sun.source.tree.TypeCastTree;
import com.sun.source.tree.VariableTree;
import com.sun.source.tree.WhileLoopTree;
import com.sun.source.util.TreeScanner;
import java.util.ArrayList;
import java.util.HashSet;
import java.util.List;
import java.util.Map;
import java.util.Set;
import java.util.TreeMap;
import java.util.TreeSet;

/** What the text of a class holds, as far as LANGUAGE.md asks for it. */
final class Rules extends TreeScanner<Void, Void> {
    private static final Set<Tree.Kind> LEFT_OUT = Set.of(Tree.Kind.THROW, Tree.Kind.TRY, Tree.Kind.CATCH,
        Tree.Kind.SYNCHRONIZED, Tree.Kind.ASSERT, Tree.Kind.INSTANCE_OF, Tree.Kind.LAMBDA_EXPRESSION,
        Tree.Kind.MEMBER_REFERENCE, Tree.Kind.NEW_CLASS, Tree.Kind.NULL_LITERAL, Tree.Kind.STRING_LITERAL,
        Tree.Kind.FLOAT_LITERAL, Tree.Kind.DOUBLE_LITERAL, Tree.Kind.ANNOTATION);

    final List<VariableTree> variables = new ArrayList<>();
    final List<MethodTree> methods = new ArrayList<>();
    final Map<String, Set<String>> calls = new TreeMap<>();
    final List<String> leftOut = new ArrayList<>();
    final List<String> selections = new ArrayList<>();
    final List<String> openLoops = new ArrayList<>();
    final List<String> callsInArguments = new ArrayList<>();
    int arraysMade = 0;

    private final List<String> bare = new ArrayList<>();
    private String method = "";
    private int argumentsDeep = 0;

    Rules(ClassTree read) {
        scan(read, null);
    }

    @Override
    public Void scan(Tree tree, Void none) {
        if (tree != null && LEFT_OUT.contains(tree.getKind())) {
            leftOut.add(tree.toString());
        }
        return super.scan(tree, none);
    }

    @Override
    public Void visitVariable(VariableTree tree, Void none) {
        variables.add(tree);
        return super.visitVariable(tree, none);
    }

    @Override
    public Void visitMethod(MethodTree tree, Void none) {
        methods.add(tree);
        method = tree.getName().toString();
        calls.computeIfAbsent(method, name -> new TreeSet<>());
        super.visitMethod(tree, none);
        method = "";
        return null;
    }

    @Override
    public Void visitMethodInvocation(MethodInvocationTree tree, Void none) {
        if (argumentsDeep > 0) {
            callsInArguments.add(tree.toString());
        }
        String called = tree.getMethodSelect().toString();
        calls.computeIfAbsent(method, name -> new TreeSet<>()).add(called);
        if (!(tree.getMethodSelect() instanceof IdentifierTree)) {
            selections.add(called);
        }
        argumentsDeep++;
        scan(tree.getArguments(), none);
        argumentsDeep--;
        return null;
    }

    @Override
    public Void visitMemberSelect(MemberSelectTree tree, Void none) {
        if (!tree.getExpression().toString().equals("this")) {
            selections.add(tree.toString());
        }
        return super.visitMemberSelect(tree, none);
    }

    @Override
    public Void visitNewArray(NewArrayTree tree, Void none) {
        arraysMade++;
        return super.visitNewArray(tree, none);
    }

    @Override
    public Void visitTypeCast(TypeCastTree tree, Void none) {
        if (tree.getType().getKind() != Tree.Kind.PRIMITIVE_TYPE) {
            leftOut.add(tree.toString());
        }
        return super.visitTypeCast(tree, none);
    }

    @Override
    public Void visitArrayAccess(ArrayAccessTree tree, Void none) {
        ExpressionTree array = tree.getExpression();
        if (!(array instanceof IdentifierTree)) {
            scan(array, none);
        }
        return scan(tree.getIndex(), none);
    }

    @Override
    public Void visitIdentifier(IdentifierTree tree, Void none) {
        bare.add(tree.getName().toString());
        return super.visitIdentifier(tree, none);
    }

    // The loops of the class are all of this form, and its body leaves the counter alone.
    @Override
    public Void visitForLoop(ForLoopTree tree, Void none) {
        boolean counts = tree.getInitializer().size() == 1 && tree.getUpdate().size() == 1
            && tree.getInitializer().get(0) instanceof VariableTree counter
            && tree.getUpdate().get(0).toString().equals(counter.getName() + "++;")
            && String.valueOf(tree.getCondition()).startsWith(counter.getName() + " < ")
            && !tree.getStatement().toString().matches(
                "(?s).*\\b" + counter.getName() + "(\\+\\+|--| [-+*/%&|^<>]*= ).*");
        if (!counts) {
            openLoops.add(tree.toString());
        }
        return super.visitForLoop(tree, none);
    }

    @Override
    public Void visitWhileLoop(WhileLoopTree tree, Void none) {
        openLoops.add(tree.toString());
        return super.visitWhileLoop(tree, none);
    }

    @Override
    public Void visitDoWhileLoop(DoWhileLoopTree tree, Void none) {
        openLoops.add(tree.toString());
        return super.visitDoWhileLoop(tree, none);
    }

    /** Names among these that stand somewhere without an index. */
    List<String> bareNames(Set<String> among) {
        List<String> found = new ArrayList<>(bare);
        found.retainAll(among);
        return found;
    }

    /** Called names that no method of the class bears. */
    Set<String> foreignCalls() {
        Set<String> foreign = new TreeSet<>();
        calls.values().forEach(foreign::addAll);
        foreign.removeAll(calls.keySet());
        foreign.remove("super");
        return foreign;
    }

    private Set<String> called(String name) {
        return calls.getOrDefault(name, Set.of());
    }

    /** Methods that can come to call themselves. */
    Set<String> recursive() {
        Set<String> found = new TreeSet<>();
        for (String name : calls.keySet()) {
            Set<String> reached = new HashSet<>(called(name));
            for (int round = 0; round < calls.size(); round++) {
                Set<String> next = new HashSet<>();
                reached.forEach(other -> next.addAll(called(other)));
                reached.addAll(next);
            }
            if (reached.contains(name)) {
                found.add(name);
            }
        }
        return found;
    }

    /** How many methods stand on each other at most when this one is called, itself counted. */
    int depth(String name) {
        int deepest = 0;
        for (String other : called(name)) {
            deepest = Math.max(deepest, depth(other));
        }
        return deepest + 1;
    }
}
