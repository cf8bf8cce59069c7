import com.sun.source.tree.ArrayAccessTree;
import com.sun.source.tree.AssertTree;
import com.sun.source.tree.AssignmentTree;
import com.sun.source.tree.BinaryTree;
import com.sun.source.tree.BlockTree;
import com.sun.source.tree.ClassTree;
import com.sun.source.tree.CompilationUnitTree;
import com.sun.source.tree.CompoundAssignmentTree;
import com.sun.source.tree.DoWhileLoopTree;
import com.sun.source.tree.EnhancedForLoopTree;
import com.sun.source.tree.ExpressionTree;
import com.sun.source.tree.ForLoopTree;
import com.sun.source.tree.InstanceOfTree;
import com.sun.source.tree.LambdaExpressionTree;
import com.sun.source.tree.LiteralTree;
import com.sun.source.tree.MemberReferenceTree;
import com.sun.source.tree.MethodInvocationTree;
import com.sun.source.tree.MethodTree;
import com.sun.source.tree.NewArrayTree;
import com.sun.source.tree.NewClassTree;
import com.sun.source.tree.SynchronizedTree;
import com.sun.source.tree.ThrowTree;
import com.sun.source.tree.Tree;
import com.sun.source.tree.TryTree;
import com.sun.source.tree.TypeCastTree;
import com.sun.source.tree.UnaryTree;
import com.sun.source.tree.VariableTree;
import com.sun.source.tree.WhileLoopTree;
import com.sun.source.util.JavacTask;
import com.sun.source.util.TreePath;
import com.sun.source.util.TreePathScanner;
import com.sun.source.util.Trees;
import java.io.IOException;
import java.nio.file.Files;
import java.nio.file.Path;
import java.util.HashMap;
import java.util.HashSet;
import java.util.List;
import java.util.Map;
import java.util.Set;
import java.util.TreeSet;
import javax.lang.model.element.Element;
import javax.lang.model.element.ElementKind;
import javax.lang.model.element.Modifier;
import javax.lang.model.element.VariableElement;
import javax.lang.model.type.TypeKind;
import javax.lang.model.type.TypeMirror;
import javax.tools.JavaCompiler;
import javax.tools.StandardJavaFileManager;
import javax.tools.ToolProvider;

/**
 * The rules of ../shared/LANGUAGE.md, as far as they can be seen in the compiler's tree of the class. It is narrower than
 * the rules where the class needs less: no library but three functions, no list, no text but those of exceptions, no
 * recursion, no loop but for. What is ruled out here and not there may be let in when the class needs it.
 */
public final class LanguageTest extends TreePathScanner<Void, Void> {
    private static final Path SOURCE = Path.of("src/main/java/MixerStation.java");
    private static final Set<String> LIBRARY = Set.of("Math.min", "Math.max", "Math.floorDiv", "System.arraycopy");
    private static final Set<String> EXCEPTIONS =
            Set.of("IllegalArgumentException", "IllegalStateException", "IndexOutOfBoundsException");
    private static final Set<TypeKind> NUMBERS = Set.of(TypeKind.INT, TypeKind.LONG, TypeKind.CHAR);
    private static final int DEEPEST_CALL = 8;
    private static final int LONGEST_METHOD = 60;
    private static final int MOST_CLASSES = 12;
    private static final int MOST_FIELDS = 20;
    private static final int MOST_PARAMETERS = 7;

    private final Trees trees;
    private final CompilationUnitTree unit;
    private final Set<String> classes = new TreeSet<>();
    private final Set<String> openMethods = new TreeSet<>();
    private final Set<String> hiddenMethods = new TreeSet<>();
    private final Map<Element, Set<Element>> callees = new HashMap<>();
    private final Set<Element> counters = new HashSet<>();
    private MethodTree method;
    // The method, or outside of methods the class, whose fields are made by its constructors.
    private Element caller;

    private LanguageTest(Trees trees, CompilationUnitTree unit) {
        this.trees = trees;
        this.unit = unit;
    }

    public static void main(String[] args) throws IOException {
        JavaCompiler compiler = ToolProvider.getSystemJavaCompiler();
        Check.isTrue("there is a compiler", compiler != null);
        if (compiler != null) {
            try (StandardJavaFileManager files = compiler.getStandardFileManager(null, null, null)) {
                look((JavacTask) compiler.getTask(null, files, null, List.of("-proc:none"), null,
                        files.getJavaFileObjects(SOURCE)));
            }
        }
        signs(Files.readString(SOURCE));
        Check.end("LanguageTest");
    }

    private static void look(JavacTask task) throws IOException {
        CompilationUnitTree unit = task.parse().iterator().next();
        task.analyze();
        rule(1, "one class and no package line", unit.getTypeDecls().size() == 1 && unit.getPackage() == null);
        rule(4, "nothing is imported", unit.getImports().isEmpty());
        LanguageTest test = new LanguageTest(Trees.instance(task), unit);
        test.scan(unit, null);
        Set<String> both = new TreeSet<>(test.openMethods);
        both.retainAll(test.hiddenMethods);
        rule(1, "no other method bears the name of a public one: " + both, both.isEmpty());
        rule(11, "the file has at most some twelve classes", test.classes.size() <= MOST_CLASSES);
        for (Element each : test.callees.keySet()) {
            int depth = test.depth(each, new HashSet<>());
            rule(11, each + " calls at most " + DEEPEST_CALL + " deep, here " + depth, depth <= DEEPEST_CALL);
        }
    }

    private static void signs(String text) {
        boolean plain = text.chars().allMatch(c -> c == '\n' || c >= 32 && c <= 126);
        rule(4, "all signs of the file are 1 to 127", plain);
    }

    /** How many calls stand open at most, this one counted. */
    private int depth(Element from, Set<Element> open) {
        if (!open.add(from)) {
            rule(8, from + " does not call itself", false);
            return DEEPEST_CALL + 1;
        }
        int deepest = 0;
        for (Element to : callees.getOrDefault(from, Set.of())) {
            deepest = Math.max(deepest, depth(to, open));
        }
        open.remove(from);
        return from.getKind() == ElementKind.CLASS ? deepest : deepest + 1;
    }

    private static void rule(int number, String what, boolean holds) {
        Check.isTrue("LANGUAGE.md, rule " + number + ", " + what, holds);
    }

    private void rule(int number, Tree tree, String what, boolean holds) {
        rule(number, "line " + line(trees.getSourcePositions().getStartPosition(unit, tree)) + ": " + what, holds);
    }

    private long line(long position) {
        return unit.getLineMap().getLineNumber(position);
    }

    private void calls(Element called) {
        callees.computeIfAbsent(caller, k -> new HashSet<>()).add(called);
    }

    private Element element() {
        return trees.getElement(getCurrentPath());
    }

    private TypeMirror type(Tree tree) {
        return trees.getTypeMirror(new TreePath(getCurrentPath(), tree));
    }

    private static boolean isStatic(Element element) {
        return element != null && element.getModifiers().contains(Modifier.STATIC);
    }

    @Override
    public Void visitClass(ClassTree tree, Void none) {
        Element element = element();
        boolean inside = element.getEnclosingElement().getKind() == ElementKind.CLASS;
        Set<Modifier> modifiers = element.getModifiers();
        if (inside) {
            rule(2, tree, "a class inside is private and static", modifiers.contains(Modifier.PRIVATE) && isStatic(element));
        } else {
            rule(1, tree, "the class is public and final",
                    modifiers.containsAll(Set.of(Modifier.PUBLIC, Modifier.FINAL)));
        }
        classes.add(tree.getSimpleName().toString());
        int fields = 0;
        for (Tree member : tree.getMembers()) {
            Element each = trees.getElement(new TreePath(getCurrentPath(), member));
            if (each != null && each.getKind() == ElementKind.FIELD && !isStatic(each)) {
                fields++;
            }
            rule(5, member, "no initialiser block", !(member instanceof BlockTree));
        }
        rule(11, tree, "a class has at most some twenty fields", fields <= MOST_FIELDS);
        Element outer = caller;
        caller = element;
        super.visitClass(tree, none);
        caller = outer;
        return null;
    }

    @Override
    public Void visitMethod(MethodTree tree, Void none) {
        Element element = element();
        boolean made = element.getKind() == ElementKind.CONSTRUCTOR;
        if (!made) {
            (element.getModifiers().contains(Modifier.PUBLIC) ? openMethods : hiddenMethods).add(tree.getName().toString());
            rule(6, tree, "no method of Object", !Set.of("equals", "hashCode", "toString", "finalize", "clone")
                    .contains(tree.getName().toString()));
            ownType(tree, type(tree.getReturnType()));
        }
        rule(11, tree, "at most seven parameters", tree.getParameters().size() <= MOST_PARAMETERS);
        long first = line(trees.getSourcePositions().getStartPosition(unit, tree));
        long last = line(trees.getSourcePositions().getEndPosition(unit, tree));
        rule(11, tree, "a method stays short", last - first < LONGEST_METHOD);
        Element outer = caller;
        method = tree;
        caller = element;
        callees.putIfAbsent(caller, new HashSet<>());
        if (made) {
            calls(outer);
        }
        super.visitMethod(tree, none);
        method = null;
        caller = outer;
        return null;
    }

    private void ownType(Tree tree, TypeMirror type) {
        String name = type.toString();
        boolean row = name.endsWith("[]");
        String of = row ? name.substring(0, name.length() - 2) : name;
        boolean good = Set.of("int", "long", "char", "boolean", "void").contains(of) || of.startsWith("MixerStation");
        rule(3, tree, "the type " + name, good && !of.endsWith("[]"));
    }

    @Override
    public Void visitVariable(VariableTree tree, Void none) {
        Element element = element();
        ownType(tree, element.asType());
        if (element.getKind() == ElementKind.FIELD && isStatic(element)) {
            rule(5, tree, "a static field is final", element.getModifiers().contains(Modifier.FINAL));
            boolean row = tree.getInitializer() instanceof NewArrayTree;
            rule(5, tree, "a static row is written out", !row || ((NewArrayTree) tree.getInitializer()).getInitializers() != null);
            boolean constant = ((VariableElement) element).getConstantValue() != null;
            rule(5, tree, "a static field is a constant or a row", row || constant);
        }
        return super.visitVariable(tree, none);
    }

    private void written(ExpressionTree target) {
        Element changed = trees.getElement(new TreePath(getCurrentPath(), target));
        rule(9, target, "the body of a loop leaves its counter", !counters.contains(changed));
        if (target instanceof ArrayAccessTree access) {
            Element row = trees.getElement(new TreePath(new TreePath(getCurrentPath(), target), access.getExpression()));
            rule(5, target, "a static row is never changed", !isStatic(row));
        }
    }

    @Override
    public Void visitAssignment(AssignmentTree tree, Void none) {
        written(tree.getVariable());
        return super.visitAssignment(tree, none);
    }

    @Override
    public Void visitCompoundAssignment(CompoundAssignmentTree tree, Void none) {
        written(tree.getVariable());
        return super.visitCompoundAssignment(tree, none);
    }

    @Override
    public Void visitUnary(UnaryTree tree, Void none) {
        if (Set.of(Tree.Kind.POSTFIX_INCREMENT, Tree.Kind.POSTFIX_DECREMENT, Tree.Kind.PREFIX_INCREMENT,
                Tree.Kind.PREFIX_DECREMENT).contains(tree.getKind())) {
            written(tree.getExpression());
        }
        return super.visitUnary(tree, none);
    }

    @Override
    public Void visitMethodInvocation(MethodInvocationTree tree, Void none) {
        Element called = trees.getElement(new TreePath(getCurrentPath(), tree.getMethodSelect()));
        String owner = called.getEnclosingElement().toString();
        if (owner.startsWith("MixerStation")) {
            calls(called);
        } else if (called.getKind() != ElementKind.CONSTRUCTOR) {
            String name = owner.substring(owner.lastIndexOf('.') + 1) + "." + called.getSimpleName();
            rule(4, tree, "the library's " + name, LIBRARY.contains(name) && owner.startsWith("java.lang."));
            if (name.equals("System.arraycopy")) {
                Element goal = trees.getElement(new TreePath(getCurrentPath(), tree.getArguments().get(2)));
                rule(5, tree, "a static row is never changed", !isStatic(goal));
            }
        }
        return super.visitMethodInvocation(tree, none);
    }

    @Override
    public Void visitNewClass(NewClassTree tree, Void none) {
        String name = type(tree).toString();
        boolean thrown = getCurrentPath().getParentPath().getLeaf() instanceof ThrowTree;
        rule(6, tree, "exceptions alone are thrown, and made to be thrown alone: " + name,
                thrown == !name.startsWith("MixerStation"));
        rule(2, tree, "no anonymous class", tree.getClassBody() == null);
        made(tree);
        if (!thrown) {
            calls(element());
        }
        return super.visitNewClass(tree, none);
    }

    @Override
    public Void visitNewArray(NewArrayTree tree, Void none) {
        made(tree);
        rule(3, tree, "a row has one dimension", tree.getDimensions().size() <= 1);
        return super.visitNewArray(tree, none);
    }

    private void made(Tree tree) {
        boolean constructor = method != null && method.getReturnType() == null;
        rule(12, tree, "nothing is made in a loop but by a constructor", counters.isEmpty() || constructor);
    }

    @Override
    public Void visitThrow(ThrowTree tree, Void none) {
        boolean made = tree.getExpression() instanceof NewClassTree;
        rule(6, tree, "what is thrown is made there", made);
        if (made) {
            NewClassTree thrown = (NewClassTree) tree.getExpression();
            String name = thrown.getIdentifier().toString();
            rule(6, tree, name, EXCEPTIONS.contains(name));
            rule(6, tree, "it has a written text",
                    thrown.getArguments().size() == 1 && thrown.getArguments().get(0) instanceof LiteralTree);
            rule(6, tree, "it is thrown by a public method that names it", caller.getModifiers().contains(Modifier.PUBLIC)
                    && method.getThrows().stream().anyMatch(each -> each.toString().equals(name)));
        }
        return super.visitThrow(tree, none);
    }

    @Override
    public Void visitLiteral(LiteralTree tree, Void none) {
        if (tree.getValue() instanceof String) {
            boolean thrown = getCurrentPath().getParentPath().getParentPath().getLeaf() instanceof ThrowTree;
            rule(4, tree, "a text stands in a throw alone", thrown);
        }
        rule(7, tree, "no null", tree.getKind() != Tree.Kind.NULL_LITERAL);
        return super.visitLiteral(tree, none);
    }

    @Override
    public Void visitBinary(BinaryTree tree, Void none) {
        boolean logic = type(tree.getLeftOperand()).getKind() == TypeKind.BOOLEAN;
        boolean numbers = NUMBERS.contains(type(tree.getLeftOperand()).getKind())
                && NUMBERS.contains(type(tree.getRightOperand()).getKind());
        rule(10, tree, "only numbers and booleans are joined and compared", logic || numbers);
        return super.visitBinary(tree, none);
    }

    @Override
    public Void visitTypeCast(TypeCastTree tree, Void none) {
        rule(6, tree, "a cast of a number", NUMBERS.contains(type(tree.getType()).getKind()));
        return super.visitTypeCast(tree, none);
    }

    @Override
    public Void visitForLoop(ForLoopTree tree, Void none) {
        boolean plain = tree.getInitializer().size() == 1 && tree.getInitializer().get(0) instanceof VariableTree
                && tree.getCondition() instanceof BinaryTree && tree.getUpdate().size() == 1;
        rule(9, tree, "a loop has a counter, its bound and its step", plain);
        if (!plain) {
            return null;
        }
        scan(tree.getInitializer(), none);
        scan(tree.getCondition(), none);
        scan(tree.getUpdate(), none);
        Element counter = trees.getElement(new TreePath(getCurrentPath(), tree.getInitializer().get(0)));
        counters.add(counter);
        scan(tree.getStatement(), none);
        counters.remove(counter);
        return null;
    }

    private Void ruledOut(int number, Tree tree) {
        rule(number, tree, "here is no " + tree.getKind(), false);
        return null;
    }

    @Override
    public Void visitWhileLoop(WhileLoopTree tree, Void none) {
        return ruledOut(9, tree);
    }

    @Override
    public Void visitDoWhileLoop(DoWhileLoopTree tree, Void none) {
        return ruledOut(9, tree);
    }

    @Override
    public Void visitEnhancedForLoop(EnhancedForLoopTree tree, Void none) {
        return ruledOut(9, tree);
    }

    @Override
    public Void visitTry(TryTree tree, Void none) {
        return ruledOut(6, tree);
    }

    @Override
    public Void visitSynchronized(SynchronizedTree tree, Void none) {
        return ruledOut(6, tree);
    }

    @Override
    public Void visitAssert(AssertTree tree, Void none) {
        return ruledOut(6, tree);
    }

    @Override
    public Void visitInstanceOf(InstanceOfTree tree, Void none) {
        return ruledOut(6, tree);
    }

    @Override
    public Void visitLambdaExpression(LambdaExpressionTree tree, Void none) {
        return ruledOut(2, tree);
    }

    @Override
    public Void visitMemberReference(MemberReferenceTree tree, Void none) {
        return ruledOut(2, tree);
    }
}
