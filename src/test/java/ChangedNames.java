import com.sun.source.tree.AssignmentTree;
import com.sun.source.tree.CompoundAssignmentTree;
import com.sun.source.tree.Tree;
import com.sun.source.tree.UnaryTree;
import com.sun.source.util.TreeScanner;
import java.util.HashSet;
import java.util.Set;

/** The variables that a piece of source changes, by =, += and their like, ++ or --. */
final class ChangedNames extends TreeScanner<Void, Void> {
    private static final Set<Tree.Kind> STEPS = Set.of(Tree.Kind.PREFIX_INCREMENT,
            Tree.Kind.PREFIX_DECREMENT, Tree.Kind.POSTFIX_INCREMENT, Tree.Kind.POSTFIX_DECREMENT);

    private final Set<String> names = new HashSet<>();

    private ChangedNames() {
    }

    static Set<String> in(Tree tree) {
        ChangedNames scanner = new ChangedNames();
        scanner.scan(tree, null);
        return scanner.names;
    }

    @Override
    public Void visitAssignment(AssignmentTree tree, Void none) {
        names.add(tree.getVariable().toString());
        return super.visitAssignment(tree, none);
    }

    @Override
    public Void visitCompoundAssignment(CompoundAssignmentTree tree, Void none) {
        names.add(tree.getVariable().toString());
        return super.visitCompoundAssignment(tree, none);
    }

    @Override
    public Void visitUnary(UnaryTree tree, Void none) {
        if (STEPS.contains(tree.getKind())) {
            names.add(tree.getExpression().toString());
        }
        return super.visitUnary(tree, none);
    }
}
