import com.sun.source.tree.AssertTree;
import com.sun.source.tree.BinaryTree;
import com.sun.source.tree.BlockTree;
import com.sun.source.tree.ClassTree;
import com.sun.source.tree.CompilationUnitTree;
import com.sun.source.tree.CompoundAssignmentTree;
import com.sun.source.tree.DoWhileLoopTree;
import com.sun.source.tree.ExpressionTree;
import com.sun.source.tree.ForLoopTree;
import com.sun.source.tree.IdentifierTree;
import com.sun.source.tree.LambdaExpressionTree;
import com.sun.source.tree.LiteralTree;
import com.sun.source.tree.MemberReferenceTree;
import com.sun.source.tree.MethodInvocationTree;
import com.sun.source.tree.MethodTree;
import com.sun.source.tree.NewArrayTree;
import com.sun.source.tree.NewClassTree;
import com.sun.source.tree.SynchronizedTree;
import com.sun.source.tree.ThrowTree;
import com.sun.source.tree.Tree;
import com.sun.source.tree.TryTree;
import com.sun.source.tree.TypeCastTree;
import com.sun.source.tree.VariableTree;
import com.sun.source.tree.WhileLoopTree;
import com.sun.source.util.JavacTask;
import com.sun.source.util.TreePath;
import com.sun.source.util.TreePathScanner;
import com.sun.source.util.TreeScanner;
import com.sun.source.util.Trees;
import java.io.IOException;
import java.net.URI;
import java.util.HashSet;
import java.util.LinkedHashMap;
import java.util.LinkedHashSet;
import java.util.List;
import java.util.Map;
import java.util.Set;
import javax.lang.model.element.Element;
import javax.lang.model.element.ElementKind;
import javax.lang.model.element.ExecutableElement;
import javax.lang.model.element.Modifier;
import javax.lang.model.element.VariableElement;
import javax.lang.model.type.ArrayType;
import javax.lang.model.type.DeclaredType;
import javax.lang.model.type.TypeKind;
import javax.lang.model.type.TypeMirror;
import javax.tools.JavaFileObject;
import javax.tools.SimpleJavaFileObject;
import javax.tools.ToolProvider;

/**
 * Looks in a source for what ../shared/LANGUAGE.md rules out; each finding begins with the rule's
 * number. It is stricter than the rules where the class needs less than they leave: no list, no
 * try, no recursion, no loop but a counting for, and no object but in constructors and throws.
 */
final class LanguageRules extends TreePathScanner<Void, Void> {
    private static final Set<String> EXCEPTIONS = Set.of("IllegalStateException",
            "IllegalArgumentException", "IndexOutOfBoundsException", "ArithmeticException",
            "UnsupportedOperationException", "NoSuchElementException", "RuntimeException");
    private static final Set<String> LIBRARY_TYPES = Set.of("java.lang.String",
            "java.lang.StringBuilder");
    private static final Set<String> LIBRARY_CALLS = Set.of("java.lang.System.arraycopy",
            "java.util.Arrays.copyOf", "java.util.Arrays.copyOfRange", "java.util.Arrays.fill",
            "java.lang.String.length", "java.lang.String.charAt", "java.lang.String.isEmpty",
            "java.lang.String.equals", "java.lang.String.substring");
    private static final Set<String> NUMBER_CLASSES = Set.of("java.lang.Math",
            "java.lang.Integer", "java.lang.Long");
    private static final Set<TypeKind> WHOLE = Set.of(TypeKind.INT, TypeKind.LONG);
    private static final Set<TypeKind> BROKEN = Set.of(TypeKind.DOUBLE, TypeKind.FLOAT);
    private static final Set<TypeKind> CONSTANTS = Set.of(TypeKind.INT, TypeKind.LONG,
            TypeKind.BOOLEAN, TypeKind.CHAR);
    private static final Set<TypeKind> CONSTANT_ROWS = Set.of(TypeKind.INT, TypeKind.LONG,
            TypeKind.CHAR, TypeKind.BYTE);
    private static final Set<Tree.Kind> COMPARISONS = Set.of(Tree.Kind.LESS_THAN,
            Tree.Kind.LESS_THAN_EQUAL, Tree.Kind.GREATER_THAN, Tree.Kind.GREATER_THAN_EQUAL);
    private static final int MOST_PARAMETERS = 7;
    private static final int MOST_LINES = 60;
    private static final int MOST_CLASSES = 12;
    private static final int MOST_FIELDS = 20;
    private static final int DEEPEST = 8;

    private final CompilationUnitTree unit;
    private final Trees trees;
    private final Set<String> findings = new LinkedHashSet<>();
    private final Map<Element, Set<Element>> calls = new LinkedHashMap<>();
    private final Set<Element> privateMethods = new LinkedHashSet<>();
    private final Set<String> publicNames = new HashSet<>();
    private int classes = 0;

    private LanguageRules(CompilationUnitTree unit, Trees trees) {
        this.unit = unit;
        this.trees = trees;
    }

    private static JavaFileObject file(String name, String source) {
        URI place = URI.create("string:///" + name + ".java");
        return new SimpleJavaFileObject(place, JavaFileObject.Kind.SOURCE) {
            @Override
            public CharSequence getCharContent(boolean ignoreErrors) {
                return source;
            }
        };
    }

    /** Returns what is found in the source of a class, in the order in which it stands there. */
    static Set<String> findings(String name, String source) throws IOException {
        StringBuilder errors = new StringBuilder();
        JavacTask task = (JavacTask) ToolProvider.getSystemJavaCompiler().getTask(null, null,
                d -> errors.append(d.getKind()).append(": ").append(d.getMessage(null)).append(' '),
                List.of("--release", "17", "-proc:none"), null, List.of(file(name, source)));
        CompilationUnitTree unit = task.parse().iterator().next();
        task.analyze();
        if (errors.indexOf("ERROR") >= 0) {
            throw new IllegalArgumentException(name + " does not compile: " + errors);
        }
        LanguageRules rules = new LanguageRules(unit, Trees.instance(task));
        rules.scan(unit, null);
        rules.lookAtNames();
        rules.lookAtCalls();
        return rules.findings;
    }

    // ---- where we are

    private long startOf(Tree tree) {
        return trees.getSourcePositions().getStartPosition(unit, tree);
    }

    private long lineAt(long position) {
        return unit.getLineMap().getLineNumber(position);
    }

    private void require(boolean good, int rule, String what, Tree tree) {
        if (!good) {
            findings.add(rule + ", line " + lineAt(startOf(tree)) + ": " + what);
        }
    }

    private Element element() {
        return trees.getElement(getCurrentPath());
    }

    private TypeMirror typeOf(Tree tree) {
        return trees.getTypeMirror(new TreePath(getCurrentPath(), tree));
    }

    private boolean isOwn(Element element) {
        Element outer = element;
        while (outer.getEnclosingElement().getKind() != ElementKind.PACKAGE) {
            outer = outer.getEnclosingElement();
        }
        ClassTree top = (ClassTree) unit.getTypeDecls().get(0);
        return outer.getSimpleName().equals(top.getSimpleName());
    }

    /** The method round the current tree, null in a field's initialiser. */
    private MethodTree method() {
        for (TreePath at = getCurrentPath(); at != null; at = at.getParentPath()) {
            if (at.getLeaf() instanceof MethodTree) {
                return (MethodTree) at.getLeaf();
            }
            if (at.getLeaf() instanceof ClassTree) {
                return null;
            }
        }
        return null;
    }

    private boolean inConstructor() {
        MethodTree method = method();
        return method != null && method.getReturnType() == null;
    }

    private boolean inThrow() {
        return getCurrentPath().getParentPath().getLeaf() instanceof ThrowTree;
    }

    // ---- rules 1, 2, 5 and 11: classes, fields and methods

    @Override
    public Void visitCompilationUnit(CompilationUnitTree tree, Void none) {
        require(tree.getPackageName() == null, 1, "a package line", tree);
        require(tree.getTypeDecls().size() == 1, 1, "more than one class outside", tree);
        return super.visitCompilationUnit(tree, none);
    }

    @Override
    public Void visitClass(ClassTree tree, Void none) {
        classes++;
        Element self = element();
        Set<Modifier> modifiers = self.getModifiers();
        if (getCurrentPath().getParentPath().getLeaf() == unit) {
            require(modifiers.contains(Modifier.PUBLIC) && modifiers.contains(Modifier.FINAL),
                    1, "the class is not public and final", tree);
        } else {
            require(modifiers.contains(Modifier.STATIC), 1, "a class inside is not static", tree);
            require(!modifiers.contains(Modifier.PUBLIC) && !modifiers.contains(Modifier.PROTECTED),
                    1, "a class inside is too open", tree);
            require(getCurrentPath().getParentPath().getLeaf() instanceof ClassTree,
                    2, "a local or anonymous class", tree);
        }
        require(classes <= MOST_CLASSES, 11, "too many classes", tree);
        long fields = self.getEnclosedElements().stream()
                .filter(e -> e.getKind() == ElementKind.FIELD)
                .filter(e -> !e.getModifiers().contains(Modifier.STATIC)).count();
        require(fields <= MOST_FIELDS, 11, "too many fields", tree);
        return super.visitClass(tree, none);
    }

    @Override
    public Void visitBlock(BlockTree tree, Void none) {
        boolean initialiser = getCurrentPath().getParentPath().getLeaf() instanceof ClassTree;
        require(!initialiser || !tree.isStatic(), 5, "a static initialiser", tree);
        return super.visitBlock(tree, none);
    }

    @Override
    public Void visitVariable(VariableTree tree, Void none) {
        VariableElement variable = (VariableElement) element();
        require(isAllowed(variable.asType()), 3, "the type " + variable.asType(), tree);
        if (variable.getKind() == ElementKind.FIELD) {
            if (variable.getModifiers().contains(Modifier.STATIC)) {
                require(isConstant(variable, tree), 5, "no constant: " + tree.getName(), tree);
            } else {
                require(variable.getModifiers().contains(Modifier.PRIVATE), 1,
                        "an open field " + tree.getName(), tree);
            }
        }
        return super.visitVariable(tree, none);
    }

    private static boolean isConstant(VariableElement field, VariableTree tree) {
        TypeMirror type = field.asType();
        if (!field.getModifiers().contains(Modifier.FINAL)) {
            return false;
        }
        if (type.getKind() == TypeKind.ARRAY) {
            return CONSTANT_ROWS.contains(((ArrayType) type).getComponentType().getKind())
                    && tree.getInitializer() instanceof NewArrayTree
                    && ((NewArrayTree) tree.getInitializer()).getInitializers() != null;
        }
        return field.getConstantValue() != null
                && (CONSTANTS.contains(type.getKind()) || type.getKind() == TypeKind.DECLARED);
    }

    @Override
    public Void visitMethod(MethodTree tree, Void none) {
        ExecutableElement method = (ExecutableElement) element();
        calls.put(method, new LinkedHashSet<>());
        if (method.getKind() == ElementKind.METHOD) {
            require(isAllowed(method.getReturnType()) || method.getReturnType().getKind()
                    == TypeKind.VOID, 3, "the type " + method.getReturnType(), tree);
            noteName(method, tree);
        }
        require(tree.getParameters().size() <= MOST_PARAMETERS, 11, "too many parameters", tree);
        long last = trees.getSourcePositions().getEndPosition(unit, tree);
        require(lineAt(last) - lineAt(startOf(tree)) < MOST_LINES, 11, "a long method", tree);
        return super.visitMethod(tree, none);
    }

    private void noteName(ExecutableElement method, MethodTree tree) {
        boolean outside = method.getEnclosingElement().getEnclosingElement().getKind()
                == ElementKind.PACKAGE;
        if (method.getModifiers().contains(Modifier.PRIVATE)) {
            privateMethods.add(method);
        } else if (outside) {
            require(method.getModifiers().contains(Modifier.PUBLIC), 1, "a half open method", tree);
            publicNames.add(method.getSimpleName().toString());
        }
    }

    private void lookAtNames() {
        for (Element method : privateMethods) {
            require(!publicNames.contains(method.getSimpleName().toString()), 1,
                    "a private method has a public one's name", trees.getTree(method));
        }
    }

    // ---- rules 3 and 4: types and the library

    private boolean isAllowed(TypeMirror type) {
        if (type.getKind() == TypeKind.ARRAY) {
            TypeMirror part = ((ArrayType) type).getComponentType();
            boolean twice = part.getKind() == TypeKind.ARRAY;
            return twice
                    ? ((ArrayType) part).getComponentType().getKind().isPrimitive()
                    : part.getKind().isPrimitive() || isOwnClass(part);
        }
        return type.getKind().isPrimitive() || isOwnClass(type)
                || LIBRARY_TYPES.contains(type.toString());
    }

    private boolean isOwnClass(TypeMirror type) {
        return type.getKind() == TypeKind.DECLARED && isOwn(((DeclaredType) type).asElement());
    }

    @Override
    public Void visitMethodInvocation(MethodInvocationTree tree, Void none) {
        ExecutableElement callee = (ExecutableElement) element();
        if (isOwn(callee)) {
            require(!inConstructor(), 12, "a constructor calls a method", tree);
            noteCall(callee);
        } else if (callee.getKind() == ElementKind.METHOD) {
            require(isLibraryCall(callee), 4, "the call of " + callee, tree);
        }
        return super.visitMethodInvocation(tree, none);
    }

    private void noteCall(Element callee) {
        MethodTree caller = method();
        if (caller != null) {
            calls.get(trees.getElement(trees.getPath(unit, caller))).add(callee);
        }
    }

    private static boolean isLibraryCall(ExecutableElement callee) {
        String owner = callee.getEnclosingElement().toString();
        String name = callee.getSimpleName().toString();
        if (NUMBER_CLASSES.contains(owner)) {
            return !name.endsWith("Exact") && WHOLE.contains(callee.getReturnType().getKind())
                    && callee.getParameters().stream()
                            .allMatch(p -> WHOLE.contains(p.asType().getKind()));
        }
        return LIBRARY_CALLS.contains(owner + "." + name);
    }

    @Override
    public Void visitLambdaExpression(LambdaExpressionTree tree, Void none) {
        require(false, 2, "a lambda", tree);
        return super.visitLambdaExpression(tree, none);
    }

    @Override
    public Void visitMemberReference(MemberReferenceTree tree, Void none) {
        require(false, 2, "a method reference", tree);
        return super.visitMemberReference(tree, none);
    }

    // ---- rules 6 and 12: exceptions and new objects

    @Override
    public Void visitThrow(ThrowTree tree, Void none) {
        require(!inConstructor(), 6, "a throw in a constructor", tree);
        boolean good = false;
        if (tree.getExpression() instanceof NewClassTree) {
            NewClassTree made = (NewClassTree) tree.getExpression();
            List<? extends ExpressionTree> words = made.getArguments();
            good = EXCEPTIONS.contains(made.getIdentifier().toString())
                    && (words.isEmpty() || words.size() == 1 && words.get(0) instanceof LiteralTree);
        }
        require(good, 6, "another throw than of a new exception with a written text", tree);
        return super.visitThrow(tree, none);
    }

    @Override
    public Void visitTry(TryTree tree, Void none) {
        require(false, 6, "a try", tree);
        return super.visitTry(tree, none);
    }

    @Override
    public Void visitSynchronized(SynchronizedTree tree, Void none) {
        require(false, 6, "synchronized", tree);
        return super.visitSynchronized(tree, none);
    }

    @Override
    public Void visitAssert(AssertTree tree, Void none) {
        require(false, 6, "assert", tree);
        return super.visitAssert(tree, none);
    }

    @Override
    public Void visitTypeCast(TypeCastTree tree, Void none) {
        require(typeOf(tree.getType()).getKind().isPrimitive(), 6, "a cast of an object", tree);
        return super.visitTypeCast(tree, none);
    }

    @Override
    public Void visitNewClass(NewClassTree tree, Void none) {
        boolean made = method() == null || inConstructor();
        require(made || inThrow(), 12, "a new object outside of a constructor", tree);
        require(inThrow() || isOwnClass(typeOf(tree)), 4, "a new " + tree.getIdentifier(), tree);
        return super.visitNewClass(tree, none);
    }

    @Override
    public Void visitNewArray(NewArrayTree tree, Void none) {
        boolean made = method() == null || inConstructor();
        require(made, 12, "a new array outside of a constructor", tree);
        return super.visitNewArray(tree, none);
    }

    // ---- rules 7, 9 and 10: divisors, loops and texts

    @Override
    public Void visitBinary(BinaryTree tree, Void none) {
        boolean divides = tree.getKind() == Tree.Kind.DIVIDE
                || tree.getKind() == Tree.Kind.REMAINDER;
        if (divides) {
            lookAtDivisor(tree.getRightOperand());
        }
        require(tree.getKind() != Tree.Kind.REMAINDER || !BROKEN.contains(typeOf(tree).getKind()),
                3, "a remainder of doubles", tree);
        require(typeOf(tree).getKind() != TypeKind.DECLARED, 10, "texts joined by +", tree);
        return super.visitBinary(tree, none);
    }

    @Override
    public Void visitCompoundAssignment(CompoundAssignmentTree tree, Void none) {
        if (tree.getKind() == Tree.Kind.DIVIDE_ASSIGNMENT
                || tree.getKind() == Tree.Kind.REMAINDER_ASSIGNMENT) {
            lookAtDivisor(tree.getExpression());
        }
        require(typeOf(tree).getKind() != TypeKind.DECLARED, 10, "texts joined by +=", tree);
        return super.visitCompoundAssignment(tree, none);
    }

    /** A divisor is a number, or each name in it has been compared in the same method before. */
    private void lookAtDivisor(ExpressionTree divisor) {
        Set<String> names = namesIn(divisor);
        boolean zero = divisor instanceof LiteralTree
                && ((Number) ((LiteralTree) divisor).getValue()).doubleValue() == 0;
        MethodTree method = method();
        boolean looked = method != null && namesComparedBefore(method, startOf(divisor))
                .containsAll(names);
        require(!zero && (names.isEmpty() || looked), 7, "a divisor without a look at it", divisor);
    }

    private static Set<String> namesIn(Tree tree) {
        Set<String> names = new HashSet<>();
        new TreeScanner<Void, Void>() {
            @Override
            public Void visitIdentifier(IdentifierTree name, Void none) {
                names.add(name.getName().toString());
                return null;
            }
        }.scan(tree, null);
        return names;
    }

    private Set<String> namesComparedBefore(MethodTree method, long position) {
        Set<String> names = new HashSet<>();
        new TreeScanner<Void, Void>() {
            @Override
            public Void visitBinary(BinaryTree tree, Void none) {
                if (COMPARISONS.contains(tree.getKind()) && startOf(tree) < position) {
                    names.addAll(namesIn(tree));
                }
                return super.visitBinary(tree, none);
            }
        }.scan(method, null);
        return names;
    }

    /** A loop counts a variable of its own, which nothing else in it changes, against a bound. */
    @Override
    public Void visitForLoop(ForLoopTree tree, Void none) {
        boolean good = false;
        if (tree.getInitializer().size() == 1 && tree.getUpdate().size() == 1
                && tree.getInitializer().get(0) instanceof VariableTree
                && tree.getCondition() != null) {
            VariableTree counter = (VariableTree) tree.getInitializer().get(0);
            String name = counter.getName().toString();
            good = comparesFirst(tree.getCondition(), name)
                    && namesIn(tree.getUpdate().get(0)).equals(Set.of(name))
                    && !ChangedNames.in(tree.getStatement()).contains(name);
        }
        require(good, 9, "a for that does not count against a bound", tree);
        return super.visitForLoop(tree, none);
    }

    private static boolean comparesFirst(ExpressionTree condition, String name) {
        return COMPARISONS.contains(condition.getKind())
                && ((BinaryTree) condition).getLeftOperand().toString().equals(name);
    }

    @Override
    public Void visitWhileLoop(WhileLoopTree tree, Void none) {
        require(false, 9, "a while", tree);
        return super.visitWhileLoop(tree, none);
    }

    @Override
    public Void visitDoWhileLoop(DoWhileLoopTree tree, Void none) {
        require(false, 9, "a do", tree);
        return super.visitDoWhileLoop(tree, none);
    }

    // ---- rules 8 and 11: how deep calls go

    private void lookAtCalls() {
        for (Element method : calls.keySet()) {
            int depth = depthOf(method, 1);
            boolean recursive = depth > calls.size();
            require(!recursive, 8, "recursion from " + method, trees.getTree(method));
            require(recursive || depth <= DEEPEST, 11, "calls go too deep from " + method,
                    trees.getTree(method));
        }
    }

    /** Deeper than there are methods means that one calls itself. */
    private int depthOf(Element method, int depth) {
        int deepest = depth;
        if (depth <= calls.size()) {
            for (Element callee : calls.getOrDefault(method, Set.of())) {
                deepest = Math.max(deepest, depthOf(callee, depth + 1));
            }
        }
        return deepest;
    }
}
