import com.sun.source.tree.AssertTree;
import com.sun.source.tree.AssignmentTree;
import com.sun.source.tree.ArrayAccessTree;
import com.sun.source.tree.BinaryTree;
import com.sun.source.tree.BlockTree;
import com.sun.source.tree.CatchTree;
import com.sun.source.tree.ClassTree;
import com.sun.source.tree.CompilationUnitTree;
import com.sun.source.tree.CompoundAssignmentTree;
import com.sun.source.tree.DoWhileLoopTree;
import com.sun.source.tree.ExpressionTree;
import com.sun.source.tree.ForLoopTree;
import com.sun.source.tree.ImportTree;
import com.sun.source.tree.LambdaExpressionTree;
import com.sun.source.tree.LiteralTree;
import com.sun.source.tree.MemberReferenceTree;
import com.sun.source.tree.MemberSelectTree;
import com.sun.source.tree.MethodInvocationTree;
import com.sun.source.tree.MethodTree;
import com.sun.source.tree.NewArrayTree;
import com.sun.source.tree.NewClassTree;
import com.sun.source.tree.SynchronizedTree;
import com.sun.source.tree.ThrowTree;
import com.sun.source.tree.Tree;
import com.sun.source.tree.TryTree;
import com.sun.source.tree.UnaryTree;
import com.sun.source.tree.VariableTree;
import com.sun.source.tree.WhileLoopTree;
import com.sun.source.util.JavacTask;
import com.sun.source.util.TreePath;
import com.sun.source.util.TreePathScanner;
import com.sun.source.util.Trees;
import java.io.IOException;
import java.nio.file.Path;
import java.util.ArrayList;
import java.util.HashSet;
import java.util.LinkedHashMap;
import java.util.LinkedHashSet;
import java.util.List;
import java.util.Map;
import java.util.Set;
import javax.lang.model.element.Element;
import javax.lang.model.element.ElementKind;
import javax.lang.model.element.ExecutableElement;
import javax.lang.model.element.Modifier;
import javax.lang.model.element.TypeElement;
import javax.lang.model.type.ArrayType;
import javax.lang.model.type.DeclaredType;
import javax.lang.model.type.TypeKind;
import javax.lang.model.type.TypeMirror;
import javax.tools.JavaCompiler;
import javax.tools.StandardJavaFileManager;
import javax.tools.ToolProvider;

/**
 * The rules of LANGUAGE.md that can be read off the source, each line that fails with the rule's
 * number. Where the class does without something that a rule would let stand (lambdas aside:
 * doubles, catches, classes without a name), this asks that it goes on so. -Dmain= tells the source.
 */
public final class LanguageTest extends TreePathScanner<Void, Void> {
    private static final Set<String> IMPORTS = Set.of("java.util.Arrays", "java.util.ArrayList", "java.util.List",
            "java.util.Iterator", "java.util.NoSuchElementException");
    private static final Set<String> LIBRARY = Set.of("java.lang.Math.min", "java.lang.Math.max", "java.lang.Math.abs",
            "java.lang.Math.floorDiv", "java.lang.Math.floorMod", "java.lang.Integer.bitCount",
            "java.lang.Integer.compare", "java.lang.Long.compare", "java.lang.Long.bitCount",
            "java.lang.System.arraycopy", "java.util.Arrays.copyOf", "java.util.Arrays.copyOfRange",
            "java.util.Arrays.fill", "java.lang.Object.Object");
    private static final Set<String> THROWN = Set.of("java.lang.IllegalStateException",
            "java.lang.IllegalArgumentException", "java.lang.IndexOutOfBoundsException",
            "java.lang.ArithmeticException", "java.lang.UnsupportedOperationException",
            "java.util.NoSuchElementException", "java.lang.RuntimeException");
    private static final Set<TypeKind> NUMBERS = Set.of(TypeKind.INT, TypeKind.LONG, TypeKind.SHORT, TypeKind.BYTE,
            TypeKind.CHAR, TypeKind.BOOLEAN);
    private static final int MOST_PARAMETERS = 7;
    private static final int MOST_LINES = 62;
    private static final int MOST_DEEP = 8;
    private static final int MOST_CLASSES = 13;
    private static final int MOST_FIELDS = 20;

    private final Trees trees;
    private final CompilationUnitTree unit;
    private final Map<Element, Set<Element>> calls = new LinkedHashMap<>();
    private final Set<String> faces = new HashSet<>();
    private int classes = 0;
    private int wrong = 0;

    private LanguageTest(Trees trees, CompilationUnitTree unit) {
        this.trees = trees;
        this.unit = unit;
    }

    private void ask(boolean holds, int rule, Tree at, String what) {
        if (!holds) {
            wrong++;
            long place = trees.getSourcePositions().getStartPosition(unit, at);
            System.out.println("rule " + rule + ", line " + unit.getLineMap().getLineNumber(place) + ": " + what);
        }
    }

    private Element here() {
        return trees.getElement(getCurrentPath());
    }

    private Element of(Tree tree) {
        return trees.getElement(new TreePath(getCurrentPath(), tree));
    }

    private TypeMirror type(Tree tree) {
        return trees.getTypeMirror(new TreePath(getCurrentPath(), tree));
    }

    private MethodTree method() {
        for (TreePath path = getCurrentPath(); path != null; path = path.getParentPath()) {
            if (path.getLeaf() instanceof MethodTree) {
                return (MethodTree) path.getLeaf();
            }
        }
        return null;
    }

    private static boolean isOwn(Element element) {
        Element outer = element;
        while (outer != null && outer.getKind() != ElementKind.PACKAGE) {
            if (outer.getSimpleName().contentEquals("EggThrow")) {
                return true;
            }
            outer = outer.getEnclosingElement();
        }
        return false;
    }

    private static boolean isText(TypeMirror type) {
        return type != null && type.toString().equals("java.lang.String");
    }

    // ---- rules 1, 2, 4, 5, 11: classes and their members

    @Override
    public Void visitCompilationUnit(CompilationUnitTree tree, Void none) {
        ask(tree.getPackageName() == null, 0, tree, "a package line");
        ask(tree.getTypeDecls().size() == 1, 0, tree, "more than one class in the file");
        super.visitCompilationUnit(tree, none);
        ask(classes <= MOST_CLASSES, 11, tree, classes + " classes");
        askDepths();
        return null;
    }

    @Override
    public Void visitImport(ImportTree tree, Void none) {
        ask(IMPORTS.contains(tree.getQualifiedIdentifier().toString()) && !tree.isStatic(), 4, tree, tree.toString());
        return null;
    }

    @Override
    public Void visitClass(ClassTree tree, Void none) {
        classes++;
        Set<Modifier> modifiers = here().getModifiers();
        boolean isOuter = getCurrentPath().getParentPath().getLeaf() == unit;
        boolean isMember = getCurrentPath().getParentPath().getLeaf() instanceof ClassTree;
        ask(isOuter || isMember && modifiers.contains(Modifier.STATIC), 2, tree, "a class that is not static");
        ask(isOuter || modifiers.contains(Modifier.PRIVATE), 2, tree, "a class that is not private");
        int fields = 0;
        for (Tree member : tree.getMembers()) {
            boolean isField = member instanceof VariableTree;
            boolean isMethod = member instanceof MethodTree && ((MethodTree) member).getReturnType() != null;
            fields += isField && !of(member).getModifiers().contains(Modifier.STATIC) ? 1 : 0;
            ask(!(member instanceof BlockTree), 5, member, "an initialiser block");
            if (isOuter && isMethod && of(member).getModifiers().contains(Modifier.PUBLIC)) {
                faces.add(((MethodTree) member).getName().toString());
            }
        }
        ask(fields <= MOST_FIELDS, 11, tree, fields + " fields");
        return super.visitClass(tree, none);
    }

    @Override
    public Void visitMethod(MethodTree tree, Void none) {
        Element method = here();
        calls.putIfAbsent(method, new LinkedHashSet<>());
        Set<Modifier> modifiers = method.getModifiers();
        boolean isMade = method.getKind() == ElementKind.CONSTRUCTOR;
        boolean isOfOuter = method.getEnclosingElement().getSimpleName().contentEquals("EggThrow");
        String name = tree.getName().toString();
        ask(modifiers.contains(Modifier.PUBLIC) == (isOfOuter && (isMade || faces.contains(name))), 1, tree, name);
        ask(!isOfOuter || modifiers.contains(Modifier.PUBLIC) || modifiers.contains(Modifier.PRIVATE), 1, tree, name);
        ask(modifiers.contains(Modifier.PUBLIC) || !faces.contains(name), 1, tree, name + " is a public one's name");
        ask(!Set.of("equals", "hashCode", "toString", "finalize").contains(name), 6, tree, name);
        ask(tree.getParameters().size() <= MOST_PARAMETERS, 11, tree, name + " has too many parameters");
        long from = unit.getLineMap().getLineNumber(trees.getSourcePositions().getStartPosition(unit, tree));
        long to = unit.getLineMap().getLineNumber(trees.getSourcePositions().getEndPosition(unit, tree));
        ask(to - from < MOST_LINES, 11, tree, name + " has " + (to - from + 1) + " lines");
        askType(tree, ((ExecutableElement) method).getReturnType());
        return super.visitMethod(tree, none);
    }

    @Override
    public Void visitVariable(VariableTree tree, Void none) {
        Element variable = here();
        askType(tree, variable.asType());
        if (variable.getModifiers().contains(Modifier.STATIC)) {
            ask(variable.getModifiers().contains(Modifier.FINAL), 5, tree, "not final: " + tree.getName());
            boolean isArray = variable.asType().getKind() == TypeKind.ARRAY;
            ask(isArray || NUMBERS.contains(variable.asType().getKind()) || isText(variable.asType()), 5, tree,
                    "a constant of another type: " + tree.getName());
            ask(!isArray || tree.getInitializer() instanceof NewArrayTree
                    && ((NewArrayTree) tree.getInitializer()).getInitializers() != null, 5, tree,
                    "not written out: " + tree.getName());
        }
        return super.visitVariable(tree, none);
    }

    /** Rule 3, but for what the class does without: numbers with a point, lists. */
    private void askType(Tree at, TypeMirror type) {
        TypeMirror part = type;
        int dimensions = 0;
        while (part.getKind() == TypeKind.ARRAY) {
            part = ((ArrayType) part).getComponentType();
            dimensions++;
        }
        boolean isNumber = NUMBERS.contains(part.getKind());
        boolean isOwn = part.getKind() == TypeKind.DECLARED && isOwn(((DeclaredType) part).asElement());
        ask(isNumber && dimensions <= 2 || isOwn && dimensions <= 1 || isText(type)
                || type.getKind() == TypeKind.VOID, 3, at, "a type: " + type);
    }

    // ---- rule 4: the library; the calls for rule 11

    @Override
    public Void visitMethodInvocation(MethodInvocationTree tree, Void none) {
        noteCall(tree, (ExecutableElement) here());
        return super.visitMethodInvocation(tree, none);
    }

    @Override
    public Void visitNewClass(NewClassTree tree, Void none) {
        noteCall(tree, (ExecutableElement) here());
        ask(tree.getClassBody() == null, 2, tree, "a class without a name");
        return super.visitNewClass(tree, none);
    }

    private void noteCall(Tree tree, ExecutableElement called) {
        TypeElement in = (TypeElement) called.getEnclosingElement();
        MethodTree from = method();
        if (isOwn(called)) {
            if (from != null) {
                calls.computeIfAbsent(trees.getElement(trees.getPath(unit, from)), e -> new LinkedHashSet<>()).add(called);
            }
            boolean isBuilding = from != null && from.getReturnType() == null;
            ask(!isBuilding || in.getModifiers().contains(Modifier.FINAL), 12, tree, "could be overridden: " + called);
            return;
        }
        boolean isMade = called.getKind() == ElementKind.CONSTRUCTOR;
        String name = in.getQualifiedName() + "." + (isMade ? in.getSimpleName() : called.getSimpleName());
        boolean isThrown = isMade && THROWN.contains(in.getQualifiedName().toString());
        ask(isThrown || LIBRARY.contains(name), 4, tree, "of the library: " + name);
    }

    @Override
    public Void visitMemberSelect(MemberSelectTree tree, Void none) {
        Element named = here();
        boolean isField = named != null && named.getKind() == ElementKind.FIELD;
        boolean isLength = tree.getIdentifier().contentEquals("length");
        ask(!isField || isLength || isOwn(named), 4, tree, "of the library: " + tree);
        return super.visitMemberSelect(tree, none);
    }

    // ---- rules 2, 5, 6, 9, 10, 12: statements and expressions

    @Override
    public Void visitLambdaExpression(LambdaExpressionTree tree, Void none) {
        ask(false, 2, tree, "a lambda");
        return super.visitLambdaExpression(tree, none);
    }

    @Override
    public Void visitMemberReference(MemberReferenceTree tree, Void none) {
        ask(false, 2, tree, "a method reference");
        return super.visitMemberReference(tree, none);
    }

    @Override
    public Void visitAssignment(AssignmentTree tree, Void none) {
        askChange(tree, tree.getVariable());
        return super.visitAssignment(tree, none);
    }

    @Override
    public Void visitCompoundAssignment(CompoundAssignmentTree tree, Void none) {
        askChange(tree, tree.getVariable());
        ask(!isText(type(tree.getVariable())), 10, tree, "a text joined by +=");
        return super.visitCompoundAssignment(tree, none);
    }

    @Override
    public Void visitUnary(UnaryTree tree, Void none) {
        boolean isChange = Set.of(Tree.Kind.PREFIX_INCREMENT, Tree.Kind.PREFIX_DECREMENT, Tree.Kind.POSTFIX_INCREMENT,
                Tree.Kind.POSTFIX_DECREMENT).contains(tree.getKind());
        if (isChange) {
            askChange(tree, tree.getExpression());
        }
        return super.visitUnary(tree, none);
    }

    private void askChange(Tree at, ExpressionTree changed) {
        if (changed instanceof ArrayAccessTree) {
            Element row = of(((ArrayAccessTree) changed).getExpression());
            ask(row == null || !row.getModifiers().contains(Modifier.STATIC), 5, at, "a constant row is changed");
        }
    }

    @Override
    public Void visitBinary(BinaryTree tree, Void none) {
        boolean isText = isText(type(tree.getLeftOperand())) || isText(type(tree.getRightOperand()));
        ask(!isText, 10, tree, "texts joined or compared: " + tree);
        return super.visitBinary(tree, none);
    }

    @Override
    public Void visitThrow(ThrowTree tree, Void none) {
        MethodTree in = method();
        ask(in != null && in.getReturnType() != null, 6, tree, "a throw in a constructor");
        boolean isMade = tree.getExpression() instanceof NewClassTree;
        ask(isMade, 6, tree, "not a new exception");
        if (isMade) {
            List<? extends ExpressionTree> told = ((NewClassTree) tree.getExpression()).getArguments();
            ask(told.isEmpty() || told.size() == 1 && told.get(0) instanceof LiteralTree, 6, tree, "not a written text");
        }
        ask(in != null && in.getName().contentEquals("person"), 6, tree, "thrown where the document tells none");
        return super.visitThrow(tree, none);
    }

    @Override
    public Void visitTry(TryTree tree, Void none) {
        ask(false, 6, tree, "a try: the class does without");
        return super.visitTry(tree, none);
    }

    @Override
    public Void visitCatch(CatchTree tree, Void none) {
        ask(false, 6, tree, "a catch: the class does without");
        return super.visitCatch(tree, none);
    }

    @Override
    public Void visitSynchronized(SynchronizedTree tree, Void none) {
        ask(false, 6, tree, "synchronized");
        return super.visitSynchronized(tree, none);
    }

    @Override
    public Void visitAssert(AssertTree tree, Void none) {
        ask(false, 6, tree, "assert");
        return super.visitAssert(tree, none);
    }

    @Override
    public Void visitForLoop(ForLoopTree tree, Void none) {
        ask(tree.getCondition() != null && !tree.getUpdate().isEmpty(), 9, tree, "a loop without an end in sight");
        return super.visitForLoop(tree, none);
    }

    @Override
    public Void visitWhileLoop(WhileLoopTree tree, Void none) {
        ask(!tree.getCondition().toString().equals("(true)"), 9, tree, "a loop without an end in sight");
        return super.visitWhileLoop(tree, none);
    }

    @Override
    public Void visitDoWhileLoop(DoWhileLoopTree tree, Void none) {
        ask(!tree.getCondition().toString().equals("(true)"), 9, tree, "a loop without an end in sight");
        return super.visitDoWhileLoop(tree, none);
    }

    @Override
    public Void visitLiteral(LiteralTree tree, Void none) {
        if (tree.getValue() instanceof String) {
            ask(((String) tree.getValue()).chars().allMatch(c -> c > 0 && c < 128), 4, tree, "a sign beyond 127");
        }
        return super.visitLiteral(tree, none);
    }

    // ---- rules 8 and 11: how deep calls go

    private boolean leadsTo(Element from, Element to, Set<Element> seen) {
        for (Element next : calls.getOrDefault(from, Set.of())) {
            if (next.equals(to) || seen.add(next) && leadsTo(next, to, seen)) {
                return true;
            }
        }
        return false;
    }

    private void askDepths() {
        Set<Element> recursive = new HashSet<>();
        for (Element method : calls.keySet()) {
            if (leadsTo(method, method, new HashSet<>())) {
                recursive.add(method);
                boolean isPrivate = method.getModifiers().contains(Modifier.PRIVATE);
                ask(isPrivate, 8, trees.getTree(method), "calls itself and is not private: " + method);
            }
        }
        for (Element method : calls.keySet()) {
            if (method.getModifiers().contains(Modifier.PUBLIC)) {
                List<String> deepest = deepest(method, recursive, new HashSet<>());
                ask(deepest.size() <= MOST_DEEP, 11, trees.getTree(method), deepest.size() + " deep: " + deepest);
            }
        }
    }

    /** The longest row of calls from here that are no recursion. */
    private List<String> deepest(Element method, Set<Element> recursive, Set<Element> open) {
        List<String> longest = new ArrayList<>();
        open.add(method);
        for (Element next : calls.getOrDefault(method, Set.of())) {
            if (!open.contains(next)) {
                List<String> row = deepest(next, recursive, open);
                longest = row.size() > longest.size() ? row : longest;
            }
        }
        open.remove(method);
        List<String> all = new ArrayList<>();
        if (!recursive.contains(method)) {
            all.add(method.getEnclosingElement().getSimpleName() + "." + method.getSimpleName());
        }
        all.addAll(longest);
        return all;
    }

    public static void main(String[] args) throws IOException {
        JavaCompiler compiler = ToolProvider.getSystemJavaCompiler();
        StandardJavaFileManager files = compiler.getStandardFileManager(null, null, null);
        Path source = Path.of(System.getProperty("main", "src/main/java/EggThrow.java"));
        JavacTask task = (JavacTask) compiler.getTask(null, files, null, List.of("-proc:none"), null,
                files.getJavaFileObjects(source));
        CompilationUnitTree unit = task.parse().iterator().next();
        task.analyze();
        LanguageTest test = new LanguageTest(Trees.instance(task), unit);
        test.scan(new TreePath(unit), null);
        files.close();
        if (test.wrong > 0 || test.calls.size() < 52) {
            System.out.println(test.wrong + " lines do not keep to the rules; " + test.calls.size() + " methods seen");
            System.exit(1);
        }
    }
}
