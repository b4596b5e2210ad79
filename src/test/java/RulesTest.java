import com.sun.source.tree.AssertTree;
import com.sun.source.tree.BinaryTree;
import com.sun.source.tree.ClassTree;
import com.sun.source.tree.CompilationUnitTree;
import com.sun.source.tree.DoWhileLoopTree;
import com.sun.source.tree.ExpressionTree;
import com.sun.source.tree.ForLoopTree;
import com.sun.source.tree.IdentifierTree;
import com.sun.source.tree.ImportTree;
import com.sun.source.tree.InstanceOfTree;
import com.sun.source.tree.LambdaExpressionTree;
import com.sun.source.tree.LiteralTree;
import com.sun.source.tree.MemberReferenceTree;
import com.sun.source.tree.MethodInvocationTree;
import com.sun.source.tree.MethodTree;
import com.sun.source.tree.NewArrayTree;
import com.sun.source.tree.NewClassTree;
import com.sun.source.tree.SynchronizedTree;
import com.sun.source.tree.ThrowTree;
import com.sun.source.tree.Tree;
import com.sun.source.tree.TryTree;
import com.sun.source.tree.TypeCastTree;
import com.sun.source.tree.VariableTree;
import com.sun.source.tree.WhileLoopTree;
import com.sun.source.util.JavacTask;
import com.sun.source.util.TreePath;
import com.sun.source.util.TreePathScanner;
import com.sun.source.util.Trees;
import java.io.IOException;
import java.nio.file.Path;
import java.util.LinkedHashMap;
import java.util.LinkedHashSet;
import java.util.List;
import java.util.Map;
import java.util.Set;
import javax.lang.model.element.Element;
import javax.lang.model.element.ElementKind;
import javax.lang.model.element.Modifier;
import javax.lang.model.element.TypeElement;
import javax.lang.model.element.VariableElement;
import javax.lang.model.type.TypeKind;
import javax.tools.JavaCompiler;
import javax.tools.StandardJavaFileManager;
import javax.tools.ToolProvider;

/**
 * The source keeps to those rules of LANGUAGE.md that show in its tree, as javac reads and resolves it. Some are held
 * closer than they are told, where the class needs no more: a change that needs more, and may have it, widens them here.
 */
final class RulesTest extends TreePathScanner<Void, Void> {
    private static final Path SOURCE = Path.of("src/main/java/PlateCuts.java");
    /** Of what rule 4 allows, all that is used. */
    private static final Set<String> LIBRARY = Set.of("java.lang.Object.<init>", "java.lang.Math.max", "java.lang.Math.min",
        "java.lang.Long.bitCount", "java.lang.System.arraycopy", "java.util.Arrays.fill");
    private static final Set<String> TYPES = Set.of("java.lang.Math", "java.lang.Long", "java.lang.System",
        "java.util.Arrays");
    /** Where a divisor that is no constant is looked at first. */
    private static final Set<String> DIVIDES = Set.of("lowest");
    private static final int MOST_CLASSES = 12, MOST_FIELDS = 20, MOST_PARAMETERS = 7, MOST_LINES = 60, MOST_DEEP = 8;

    private static final Check CHECK = new Check("RulesTest");

    private final Trees trees;
    private final CompilationUnitTree unit;
    private final Map<String, Set<String>> calls = new LinkedHashMap<>();
    private final Map<String, MethodTree> methods = new LinkedHashMap<>();
    private int classes;

    private RulesTest(Trees trees, CompilationUnitTree unit) {
        this.trees = trees;
        this.unit = unit;
    }

    public static void main(String[] args) throws IOException {
        JavaCompiler compiler = ToolProvider.getSystemJavaCompiler();
        try (StandardJavaFileManager files = compiler.getStandardFileManager(null, null, null)) {
            JavacTask task = (JavacTask) compiler.getTask(null, files, null, List.of("-proc:none"), null,
                files.getJavaFileObjects(SOURCE));
            CompilationUnitTree unit = task.parse().iterator().next();
            task.analyze();
            RulesTest rules = new RulesTest(Trees.instance(task), unit);
            rules.scan(unit, null);
            rules.hold("classes: " + rules.classes, rules.classes <= MOST_CLASSES);
            rules.callsGoNotTooDeep();
            rules.onlyGuardedOnesCallThemselves();
        }
        CHECK.finish();
    }

    private void hold(String what, boolean good) {
        CHECK.holds(what, good);
    }

    private void none(String rule, Tree tree) {
        CHECK.holds("rule " + rule + ": line " + line(tree) + ": " + tree.getKind(), false);
    }

    private long line(Tree tree) {
        return unit.getLineMap().getLineNumber(trees.getSourcePositions().getStartPosition(unit, tree));
    }

    private long lines(Tree tree) {
        return unit.getLineMap().getLineNumber(trees.getSourcePositions().getEndPosition(unit, tree)) - line(tree) + 1;
    }

    private Element element(Tree tree) {
        return trees.getElement(new TreePath(getCurrentPath(), tree));
    }

    /** The innermost tree of that sort that holds what is looked at; null: none does. */
    private <T extends Tree> T around(Class<T> sort) {
        for (TreePath path = getCurrentPath(); path != null; path = path.getParentPath()) {
            if (sort.isInstance(path.getLeaf())) {
                return sort.cast(path.getLeaf());
            }
        }
        return null;
    }

    private static String name(Element method) {
        return ((TypeElement) method.getEnclosingElement()).getQualifiedName() + "." + method.getSimpleName();
    }

    private static boolean isOwn(String name) {
        return name.equals("PlateCuts") || name.startsWith("PlateCuts.");
    }

    // ---- one file, its classes, fields and methods

    @Override
    public Void visitCompilationUnit(CompilationUnitTree tree, Void v) {
        hold("no package", tree.getPackageName() == null);
        hold("one class in the file", tree.getTypeDecls().size() == 1);
        return super.visitCompilationUnit(tree, v);
    }

    @Override
    public Void visitImport(ImportTree tree, Void v) {
        hold("import of " + tree.getQualifiedIdentifier(), TYPES.contains(tree.getQualifiedIdentifier().toString()));
        return super.visitImport(tree, v);
    }

    @Override
    public Void visitClass(ClassTree tree, Void v) {
        classes++;
        Set<Modifier> modifiers = tree.getModifiers().getFlags();
        boolean outermost = tree.getSimpleName().contentEquals("PlateCuts");
        hold(tree.getSimpleName() + " is final, and static if it is inside",
            modifiers.contains(Modifier.FINAL) && (outermost || modifiers.contains(Modifier.STATIC)));
        int fields = 0;
        for (Tree member : tree.getMembers()) {
            hold(tree.getSimpleName() + " has no initialiser block", member.getKind() != Tree.Kind.BLOCK);
            if (member instanceof VariableTree field) {
                boolean isStatic = field.getModifiers().getFlags().contains(Modifier.STATIC);
                fields += isStatic ? 0 : 1;
                hold("the static " + field.getName() + " is final, and written out",
                    !isStatic || field.getModifiers().getFlags().contains(Modifier.FINAL) && field.getInitializer() != null);
            }
        }
        hold(tree.getSimpleName() + " has " + fields + " fields", fields <= MOST_FIELDS);
        return super.visitClass(tree, v);
    }

    @Override
    public Void visitMethod(MethodTree tree, Void v) {
        String name = name(trees.getElement(getCurrentPath()));
        if (!tree.getName().contentEquals("<init>")) {
            hold(name + " has a name of its own", methods.put(name, tree) == null);
        }
        calls.putIfAbsent(name, new LinkedHashSet<>());
        hold(name + " takes " + tree.getParameters().size(), tree.getParameters().size() <= MOST_PARAMETERS);
        hold(name + " has " + lines(tree) + " lines", lines(tree) <= MOST_LINES);
        hold(name + " throws nothing", tree.getThrows().isEmpty());
        return super.visitMethod(tree, v);
    }

    // ---- the library

    @Override
    public Void visitIdentifier(IdentifierTree tree, Void v) {
        Element element = trees.getElement(getCurrentPath());
        if (element instanceof TypeElement type) {
            String name = type.getQualifiedName().toString();
            hold("rule 4: line " + line(tree) + ": " + name, isOwn(name) || TYPES.contains(name));
        }
        return super.visitIdentifier(tree, v);
    }

    @Override
    public Void visitMethodInvocation(MethodInvocationTree tree, Void v) {
        String called = name(element(tree.getMethodSelect()));
        hold("rule 4: line " + line(tree) + ": " + called, isOwn(called) || LIBRARY.contains(called));
        called(called);
        return super.visitMethodInvocation(tree, v);
    }

    private void called(String called) {
        MethodTree method = around(MethodTree.class);
        if (method != null) {
            calls.get(name(trees.getElement(trees.getPath(unit, method)))).add(called);
        }
    }

    /** No call makes an object: all is made with the first one. */
    private boolean isInTheMaking() {
        MethodTree method = around(MethodTree.class);
        return method == null || method.getName().contentEquals("<init>");
    }

    @Override
    public Void visitNewClass(NewClassTree tree, Void v) {
        hold("rule 12: line " + line(tree) + ": an object is made by a call", isInTheMaking());
        hold("rule 2: line " + line(tree) + ": a class without a name", tree.getClassBody() == null);
        return super.visitNewClass(tree, v);
    }

    @Override
    public Void visitNewArray(NewArrayTree tree, Void v) {
        hold("rule 12: line " + line(tree) + ": a row is made by a call", isInTheMaking());
        return super.visitNewArray(tree, v);
    }

    // ---- what is not written

    @Override
    public Void visitLiteral(LiteralTree tree, Void v) {
        hold("line " + line(tree) + ": a text, or null", tree.getValue() != null && !(tree.getValue() instanceof String));
        return super.visitLiteral(tree, v);
    }

    @Override
    public Void visitTypeCast(TypeCastTree tree, Void v) {
        TypeKind kind = trees.getTypeMirror(new TreePath(getCurrentPath(), tree.getType())).getKind();
        hold("rule 6: line " + line(tree) + ": a cast to " + tree.getType(), kind.isPrimitive());
        return super.visitTypeCast(tree, v);
    }

    @Override
    public Void visitInstanceOf(InstanceOfTree tree, Void v) {
        none("6", tree);
        return super.visitInstanceOf(tree, v);
    }

    @Override
    public Void visitLambdaExpression(LambdaExpressionTree tree, Void v) {
        none("2", tree);
        return super.visitLambdaExpression(tree, v);
    }

    @Override
    public Void visitMemberReference(MemberReferenceTree tree, Void v) {
        none("2", tree);
        return super.visitMemberReference(tree, v);
    }

    @Override
    public Void visitTry(TryTree tree, Void v) {
        none("6", tree);
        return super.visitTry(tree, v);
    }

    @Override
    public Void visitThrow(ThrowTree tree, Void v) {
        none("6", tree);
        return super.visitThrow(tree, v);
    }

    @Override
    public Void visitSynchronized(SynchronizedTree tree, Void v) {
        none("6", tree);
        return super.visitSynchronized(tree, v);
    }

    @Override
    public Void visitAssert(AssertTree tree, Void v) {
        none("6", tree);
        return super.visitAssert(tree, v);
    }

    // ---- divisors, loops

    @Override
    public Void visitBinary(BinaryTree tree, Void v) {
        if (tree.getKind() == Tree.Kind.DIVIDE || tree.getKind() == Tree.Kind.REMAINDER) {
            hold("rule 7: line " + line(tree) + ": a divisor that is not looked at",
                isConstant(tree.getRightOperand()) || DIVIDES.contains(around(MethodTree.class).getName().toString()));
        }
        return super.visitBinary(tree, v);
    }

    /** Made of numbers and constants alone: javac itself tells of a 0. */
    private boolean isConstant(ExpressionTree tree) {
        Boolean constant = new TreePathScanner<Boolean, Void>() {
            @Override
            public Boolean visitIdentifier(IdentifierTree name, Void v) {
                Element element = trees.getElement(getCurrentPath());
                return element.getKind() == ElementKind.FIELD && ((VariableElement) element).getConstantValue() != null;
            }

            @Override
            public Boolean visitMethodInvocation(MethodInvocationTree call, Void v) {
                return false;
            }

            @Override
            public Boolean reduce(Boolean one, Boolean other) {
                return !Boolean.FALSE.equals(one) && !Boolean.FALSE.equals(other);
            }
        }.scan(new TreePath(getCurrentPath(), tree), null);
        return !Boolean.FALSE.equals(constant);
    }

    /** A variable of its own that is held against a bound, and goes up or down by 1. */
    @Override
    public Void visitForLoop(ForLoopTree tree, Void v) {
        boolean good = tree.getInitializer().size() == 1 && tree.getUpdate().size() == 1
            && tree.getInitializer().get(0) instanceof VariableTree && tree.getCondition() != null;
        if (good) {
            String counter = ((VariableTree) tree.getInitializer().get(0)).getName().toString();
            String step = tree.getUpdate().get(0).getExpression().toString();
            String bound = tree.getCondition().toString();
            good = step.equals(counter + "++") && bound.contains(counter + " <")
                || step.equals(counter + "--") && bound.contains(counter + " >");
        }
        hold("rule 9: line " + line(tree) + ": a loop whose end is not seen", good);
        return super.visitForLoop(tree, v);
    }

    @Override
    public Void visitWhileLoop(WhileLoopTree tree, Void v) {
        none("9", tree);
        return super.visitWhileLoop(tree, v);
    }

    @Override
    public Void visitDoWhileLoop(DoWhileLoopTree tree, Void v) {
        none("9", tree);
        return super.visitDoWhileLoop(tree, v);
    }

    // ---- calls in calls

    private void callsGoNotTooDeep() {
        for (String method : methods.keySet()) {
            hold("rule 11: " + method + " goes deeper than " + MOST_DEEP, isWithin(method, MOST_DEEP));
        }
    }

    /** Whether no more than so many calls stand open at once, this one too; one that calls itself counts once. */
    private boolean isWithin(String method, int most) {
        if (!calls.containsKey(method)) {
            return true;
        }
        if (most == 0) {
            return false;
        }
        for (String called : calls.get(method)) {
            if (!called.equals(method) && !isWithin(called, most - 1)) {
                return false;
            }
        }
        return true;
    }

    private void onlyGuardedOnesCallThemselves() {
        int recursions = 0;
        for (Map.Entry<String, MethodTree> one : methods.entrySet()) {
            if (!calls.get(one.getKey()).contains(one.getKey())) {
                continue;
            }
            recursions++;
            Set<Modifier> modifiers = one.getValue().getModifiers().getFlags();
            boolean carriesDepth = one.getValue().getParameters().toString().contains("int depth");
            hold("rule 8: " + one.getKey() + " is private, static, and carries its depth", carriesDepth
                && modifiers.contains(Modifier.PRIVATE) && modifiers.contains(Modifier.STATIC));
        }
        hold("the one that calls itself was found: " + recursions, recursions == 1);
    }
}
