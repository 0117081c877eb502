import com.sun.source.tree.AssertTree;
import com.sun.source.tree.AssignmentTree;
import com.sun.source.tree.BinaryTree;
import com.sun.source.tree.BlockTree;
import com.sun.source.tree.ClassTree;
import com.sun.source.tree.CompilationUnitTree;
import com.sun.source.tree.CompoundAssignmentTree;
import com.sun.source.tree.DoWhileLoopTree;
import com.sun.source.tree.ExpressionTree;
import com.sun.source.tree.ForLoopTree;
import com.sun.source.tree.IdentifierTree;
import com.sun.source.tree.ImportTree;
import com.sun.source.tree.LambdaExpressionTree;
import com.sun.source.tree.LiteralTree;
import com.sun.source.tree.MemberReferenceTree;
import com.sun.source.tree.MemberSelectTree;
import com.sun.source.tree.MethodInvocationTree;
import com.sun.source.tree.MethodTree;
import com.sun.source.tree.NewArrayTree;
import com.sun.source.tree.NewClassTree;
import com.sun.source.tree.ParenthesizedTree;
import com.sun.source.tree.SwitchTree;
import com.sun.source.tree.SynchronizedTree;
import com.sun.source.tree.ThrowTree;
import com.sun.source.tree.Tree;
import com.sun.source.tree.TryTree;
import com.sun.source.tree.TypeCastTree;
import com.sun.source.tree.UnaryTree;
import com.sun.source.tree.VariableTree;
import com.sun.source.tree.WhileLoopTree;
import com.sun.source.util.JavacTask;
import com.sun.source.util.TreePath;
import com.sun.source.util.TreePathScanner;
import com.sun.source.util.Trees;
import java.io.IOException;
import java.net.URI;
import java.util.ArrayList;
import java.util.List;
import java.util.Map;
import java.util.Set;
import java.util.TreeMap;
import java.util.TreeSet;
import javax.lang.model.element.Element;
import javax.lang.model.element.ElementKind;
import javax.lang.model.element.Modifier;
import javax.lang.model.type.ArrayType;
import javax.lang.model.type.DeclaredType;
import javax.lang.model.type.TypeKind;
import javax.lang.model.type.TypeMirror;
import javax.tools.JavaCompiler;
import javax.tools.JavaFileObject;
import javax.tools.SimpleJavaFileObject;
import javax.tools.ToolProvider;

/**
 * Holds a source against those rules of ../shared/LANGUAGE.md that can be read off it. Where the rules leave more than
 * the class needs (lists, try, casts among own classes, recursion, objects made by calls), nothing more is let through.
 */
final class Language extends TreePathScanner<Void, Void> {
    private static final Set<String> NUMBERS = Set.of("int", "long", "short", "byte", "char", "double", "float");
    private static final Set<String> CONSTANTS = Set.of("int", "long", "boolean", "char", "java.lang.String");
    private static final Set<String> CONSTANT_ROWS = Set.of("int[]", "long[]", "char[]", "byte[]");
    private static final Set<String> TEXTS = Set.of("java.lang.String", "java.lang.StringBuilder");
    private static final Set<String> EXCEPTIONS = Set.of("IllegalStateException", "IllegalArgumentException",
            "IndexOutOfBoundsException", "ArithmeticException", "UnsupportedOperationException",
            "NoSuchElementException", "RuntimeException");
    private static final Map<String, Set<String>> LIBRARY = Map.of(
            "java.lang.String", Set.of("length", "charAt", "isEmpty", "equals", "indexOf", "substring", "toCharArray"),
            "java.lang.StringBuilder", Set.of("append", "charAt", "setCharAt", "setLength", "deleteCharAt", "reverse",
                    "length", "toString"),
            "java.lang.Math", Set.of("abs", "max", "min", "floorDiv", "floorMod"),
            "java.lang.Integer", Set.of("compare", "max", "min", "bitCount"),
            "java.lang.Long", Set.of("compare", "max", "min", "bitCount"),
            "java.lang.System", Set.of("arraycopy"),
            "java.util.Arrays", Set.of("copyOf", "copyOfRange", "fill"));
    private static final int MOST_PARAMETERS = 7;
    private static final int MOST_LINES = 60;
    private static final int MOST_CLASSES = 12;
    private static final int MOST_FIELDS = 20;
    private static final int DEEPEST_CALLS = 8;

    private final List<String> faults = new ArrayList<>();
    private final Map<String, Set<String>> calls = new TreeMap<>();
    private final CompilationUnitTree unit;
    private final Trees trees;
    private int classes;

    private Language(CompilationUnitTree unit, Trees trees) {
        this.unit = unit;
        this.trees = trees;
    }

    /** Each fault begins with its rule, as in "rule 4, line 12: Integer.MAX_VALUE". */
    static List<String> faults(String source) throws IOException {
        JavaCompiler javac = ToolProvider.getSystemJavaCompiler();
        StringBuilder told = new StringBuilder();
        JavaFileObject file = new SimpleJavaFileObject(URI.create("string:///HandSpans.java"),
                JavaFileObject.Kind.SOURCE) {
            @Override
            public CharSequence getCharContent(boolean ignoreErrors) {
                return source;
            }
        };
        JavacTask task = (JavacTask) javac.getTask(null, null,
                d -> told.append(d.getKind() == javax.tools.Diagnostic.Kind.ERROR ? d : ""),
                List.of("--release", "17", "-proc:none"), null, List.of(file));
        CompilationUnitTree unit = task.parse().iterator().next();
        task.analyze();
        if (told.length() > 0) {
            return List.of("does not compile: " + told);
        }
        Language rules = new Language(unit, Trees.instance(task));
        rules.scan(unit, null);
        rules.lookAtCalls();
        return rules.faults;
    }

    private void fault(int rule, Tree where, String what) {
        long at = trees.getSourcePositions().getStartPosition(unit, where);
        faults.add("rule " + rule + ", line " + unit.getLineMap().getLineNumber(at) + ": " + what);
    }

    private void require(boolean holds, int rule, Tree where) {
        if (!holds) {
            fault(rule, where, where.toString().strip().lines().findFirst().orElse(""));
        }
    }

    private Element element(Tree tree) {
        return trees.getElement(TreePath.getPath(unit, tree));
    }

    private TypeMirror type(Tree tree) {
        return trees.getTypeMirror(TreePath.getPath(unit, tree));
    }

    private static Element outermost(Element e) {
        Element at = e;
        while (at != null && at.getEnclosingElement() != null
                && at.getEnclosingElement().getKind() != ElementKind.PACKAGE) {
            at = at.getEnclosingElement();
        }
        return at;
    }

    private boolean isOwn(Element e) {
        for (Tree tree : unit.getTypeDecls()) {
            if (element(tree) == outermost(e)) {
                return true;
            }
        }
        return false;
    }

    private Tree enclosing(Tree.Kind... kinds) {
        for (TreePath path = getCurrentPath(); path != null; path = path.getParentPath()) {
            for (Tree.Kind kind : kinds) {
                if (path.getLeaf().getKind() == kind) {
                    return path.getLeaf();
                }
            }
        }
        return null;
    }

    private MethodTree enclosingMethod() {
        return (MethodTree) enclosing(Tree.Kind.METHOD);
    }

    private static boolean isConstructor(MethodTree method) {
        return method.getName().contentEquals("<init>");
    }

    // ---- rules 1, 2 and 4: what stands in the file

    @Override
    public Void visitCompilationUnit(CompilationUnitTree tree, Void none) {
        require(tree.getPackageName() == null && tree.getTypeDecls().size() == 1, 1, tree);
        return super.visitCompilationUnit(tree, none);
    }

    @Override
    public Void visitImport(ImportTree tree, Void none) {
        fault(4, tree, tree.toString().strip());
        return null;
    }

    @Override
    public Void visitClass(ClassTree tree, Void none) {
        classes++;
        require(classes <= MOST_CLASSES, 11, tree);
        Set<Modifier> how = tree.getModifiers().getFlags();
        if (getCurrentPath().getParentPath().getLeaf() == unit) {
            require(how.containsAll(Set.of(Modifier.PUBLIC, Modifier.FINAL)), 1, tree);
        } else {
            require(!how.contains(Modifier.PUBLIC) && !how.contains(Modifier.PROTECTED), 1, tree);
            require(element(tree).getEnclosingElement().getKind().isClass(), 2, tree);
        }
        int fields = 0;
        for (Tree member : tree.getMembers()) {
            require(!(member instanceof BlockTree), 5, member);
            fields += member instanceof VariableTree && !isStatic((VariableTree) member) ? 1 : 0;
        }
        require(fields <= MOST_FIELDS, 11, tree);
        return super.visitClass(tree, none);
    }

    @Override
    public Void visitLambdaExpression(LambdaExpressionTree tree, Void none) {
        fault(2, tree, tree.toString());
        return null;
    }

    @Override
    public Void visitMemberReference(MemberReferenceTree tree, Void none) {
        fault(2, tree, tree.toString());
        return null;
    }

    // ---- rules 3 and 5: types and static fields

    private static boolean isStatic(VariableTree tree) {
        return tree.getModifiers().getFlags().contains(Modifier.STATIC);
    }

    private boolean isOwnClass(TypeMirror type) {
        return type.getKind() == TypeKind.DECLARED && isOwn(((DeclaredType) type).asElement());
    }

    private boolean isAllowed(TypeMirror type) {
        if (type.getKind() == TypeKind.ARRAY) {
            TypeMirror of = ((ArrayType) type).getComponentType();
            if (of.getKind() == TypeKind.ARRAY) {
                return NUMBERS.contains(((ArrayType) of).getComponentType().toString());
            }
            return of.getKind().isPrimitive() || isOwnClass(of) || TEXTS.contains(of.toString());
        }
        return type.getKind().isPrimitive() || isOwnClass(type) || TEXTS.contains(type.toString());
    }

    @Override
    public Void visitVariable(VariableTree tree, Void none) {
        TypeMirror type = type(tree);
        require(isAllowed(type), 3, tree);
        if (isStatic(tree)) {
            require(tree.getModifiers().getFlags().contains(Modifier.FINAL), 5, tree);
            boolean row = tree.getInitializer() instanceof NewArrayTree made && made.getInitializers() != null;
            require(CONSTANTS.contains(type.toString()) || row && CONSTANT_ROWS.contains(type.toString()), 5, tree);
        }
        return super.visitVariable(tree, none);
    }

    private void mayChange(ExpressionTree target, Tree where) {
        ExpressionTree row = target;
        while (row instanceof com.sun.source.tree.ArrayAccessTree access) {
            row = access.getExpression();
        }
        Element e = row == target ? null : element(row);
        require(e == null || !e.getModifiers().contains(Modifier.STATIC), 5, where);
    }

    @Override
    public Void visitAssignment(AssignmentTree tree, Void none) {
        mayChange(tree.getVariable(), tree);
        return super.visitAssignment(tree, none);
    }

    @Override
    public Void visitUnary(UnaryTree tree, Void none) {
        if (tree.getKind().name().endsWith("CREMENT")) {
            mayChange(tree.getExpression(), tree);
        }
        return super.visitUnary(tree, none);
    }

    @Override
    public Void visitTypeCast(TypeCastTree tree, Void none) {
        require(type(tree.getType()).getKind().isPrimitive(), 6, tree);
        return super.visitTypeCast(tree, none);
    }

    // ---- rules 4 and 10: the library, and texts

    @Override
    public Void visitIdentifier(IdentifierTree tree, Void none) {
        mayRead(tree);
        return super.visitIdentifier(tree, none);
    }

    @Override
    public Void visitMemberSelect(MemberSelectTree tree, Void none) {
        mayRead(tree);
        return super.visitMemberSelect(tree, none);
    }

    private void mayRead(ExpressionTree tree) {
        Element e = element(tree);
        if (e == null || !e.getKind().isField() || isOwn(e)) {
            return;
        }
        boolean length = tree instanceof MemberSelectTree of && type(of.getExpression()).getKind() == TypeKind.ARRAY;
        require(length || e.getSimpleName().contentEquals("this"), 4, tree);
    }

    @Override
    public Void visitBinary(BinaryTree tree, Void none) {
        require(!isText(tree), 10, tree);
        boolean equality = tree.getKind() == Tree.Kind.EQUAL_TO || tree.getKind() == Tree.Kind.NOT_EQUAL_TO;
        require(!equality || !isText(tree.getLeftOperand()) || !isText(tree.getRightOperand()), 6, tree);
        return super.visitBinary(tree, none);
    }

    @Override
    public Void visitCompoundAssignment(CompoundAssignmentTree tree, Void none) {
        require(!isText(tree), 10, tree);
        mayChange(tree.getVariable(), tree);
        return super.visitCompoundAssignment(tree, none);
    }

    @Override
    public Void visitSwitch(SwitchTree tree, Void none) {
        require(!isText(tree.getExpression()), 10, tree);
        return super.visitSwitch(tree, none);
    }

    private boolean isText(Tree tree) {
        return type(tree).toString().equals("java.lang.String");
    }

    // ---- rule 6: exceptions

    @Override
    public Void visitThrow(ThrowTree tree, Void none) {
        boolean plain = tree.getExpression() instanceof NewClassTree made
                && EXCEPTIONS.contains(made.getIdentifier().toString()) && made.getClassBody() == null
                && (made.getArguments().isEmpty() || made.getArguments().get(0).getKind() == Tree.Kind.STRING_LITERAL);
        require(plain && !isConstructor(enclosingMethod()), 6, tree);
        return super.visitThrow(tree, none);
    }

    @Override
    public Void visitTry(TryTree tree, Void none) {
        fault(6, tree, "try");
        return super.visitTry(tree, none);
    }

    @Override
    public Void visitSynchronized(SynchronizedTree tree, Void none) {
        fault(6, tree, "synchronized");
        return super.visitSynchronized(tree, none);
    }

    @Override
    public Void visitAssert(AssertTree tree, Void none) {
        fault(6, tree, "assert");
        return super.visitAssert(tree, none);
    }

    // ---- rule 9: loops

    private boolean hasEnd(ExpressionTree condition) {
        ExpressionTree plain = condition;
        while (plain instanceof ParenthesizedTree around) {
            plain = around.getExpression();
        }
        return plain != null && !(plain instanceof LiteralTree);
    }

    @Override
    public Void visitForLoop(ForLoopTree tree, Void none) {
        require(hasEnd(tree.getCondition()) && !tree.getUpdate().isEmpty(), 9, tree);
        return super.visitForLoop(tree, none);
    }

    @Override
    public Void visitWhileLoop(WhileLoopTree tree, Void none) {
        require(hasEnd(tree.getCondition()), 9, tree);
        return super.visitWhileLoop(tree, none);
    }

    @Override
    public Void visitDoWhileLoop(DoWhileLoopTree tree, Void none) {
        require(hasEnd(tree.getCondition()), 9, tree);
        return super.visitDoWhileLoop(tree, none);
    }

    // ---- rules 8, 11 and 12: methods, calls and objects

    @Override
    public Void visitMethod(MethodTree tree, Void none) {
        require(tree.getParameters().size() <= MOST_PARAMETERS, 11, tree);
        long first = trees.getSourcePositions().getStartPosition(unit, tree);
        long last = trees.getSourcePositions().getEndPosition(unit, tree);
        long lines = last < 0 ? 1 : unit.getLineMap().getLineNumber(last) - unit.getLineMap().getLineNumber(first) + 1;
        require(lines <= MOST_LINES, 11, tree);
        require(!tree.getModifiers().getFlags().contains(Modifier.SYNCHRONIZED), 6, tree);
        require(!Set.of("equals", "hashCode", "toString").contains(tree.getName().toString()), 6, tree);
        TypeMirror answer = tree.getReturnType() == null ? null : type(tree.getReturnType());
        require(answer == null || answer.getKind() == TypeKind.VOID || isAllowed(answer), 3, tree);
        return super.visitMethod(tree, none);
    }

    @Override
    public Void visitMethodInvocation(MethodInvocationTree tree, Void none) {
        Element called = element(tree.getMethodSelect());
        Element of = called.getEnclosingElement();
        if (isOwn(called)) {
            call(called);
        } else if (!of.toString().equals("java.lang.Object") || !called.getSimpleName().contentEquals("<init>")) {
            Set<String> names = LIBRARY.getOrDefault(of.toString(), Set.of());
            require(names.contains(called.getSimpleName().toString()), 4, tree);
        }
        return super.visitMethodInvocation(tree, none);
    }

    @Override
    public Void visitNewClass(NewClassTree tree, Void none) {
        Element made = element(tree);
        if (isOwn(made)) {
            call(made);
            require(standsInConstructor(), 12, tree);
        } else {
            require(getCurrentPath().getParentPath().getLeaf() instanceof ThrowTree, 4, tree);
        }
        return super.visitNewClass(tree, none);
    }

    @Override
    public Void visitNewArray(NewArrayTree tree, Void none) {
        require(standsInConstructor(), 12, tree);
        return super.visitNewArray(tree, none);
    }

    /** In the initialiser of a field, too. */
    private boolean standsInConstructor() {
        MethodTree method = enclosingMethod();
        return method == null || isConstructor(method);
    }

    private void call(Element called) {
        MethodTree method = enclosingMethod();
        Tree place = enclosing(Tree.Kind.CLASS, Tree.Kind.ENUM, Tree.Kind.INTERFACE, Tree.Kind.RECORD);
        String caller = method == null || isConstructor(method) ? constructorOf(element(place)) : name(element(method));
        calls.computeIfAbsent(caller, any -> new TreeSet<>()).add(name(called));
    }

    private static String constructorOf(Element of) {
        return of + ".<init>";
    }

    private static String name(Element method) {
        Element of = method.getEnclosingElement();
        return method.getKind() == ElementKind.CONSTRUCTOR ? constructorOf(of) : of + "." + method;
    }

    private void lookAtCalls() {
        for (String method : calls.keySet()) {
            List<String> way = longestWay(method, new ArrayList<>());
            if (way.size() > DEEPEST_CALLS) {
                faults.add("rule 11: calls go " + way.size() + " deep: " + way);
            }
        }
    }

    /** From this method on down; stops where a method calls itself by a way. */
    private List<String> longestWay(String method, List<String> open) {
        if (open.contains(method)) {
            faults.add("rule 8: " + method + " calls itself, by " + open);
            return new ArrayList<>();
        }
        open.add(method);
        List<String> longest = new ArrayList<>();
        for (String called : calls.getOrDefault(method, Set.of())) {
            List<String> way = longestWay(called, open);
            longest = way.size() > longest.size() ? way : longest;
        }
        open.remove(method);
        longest.add(0, method);
        return longest;
    }
}
