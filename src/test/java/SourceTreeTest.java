import com.sun.source.tree.AssertTree;
import com.sun.source.tree.BinaryTree;
import com.sun.source.tree.BlockTree;
import com.sun.source.tree.ClassTree;
import com.sun.source.tree.CompilationUnitTree;
import com.sun.source.tree.ConditionalExpressionTree;
import com.sun.source.tree.DoWhileLoopTree;
import com.sun.source.tree.ExpressionTree;
import com.sun.source.tree.ForLoopTree;
import com.sun.source.tree.LambdaExpressionTree;
import com.sun.source.tree.MemberReferenceTree;
import com.sun.source.tree.MethodInvocationTree;
import com.sun.source.tree.MethodTree;
import com.sun.source.tree.NewArrayTree;
import com.sun.source.tree.NewClassTree;
import com.sun.source.tree.SynchronizedTree;
import com.sun.source.tree.ThrowTree;
import com.sun.source.tree.Tree;
import com.sun.source.tree.TryTree;
import com.sun.source.tree.TypeCastTree;
import com.sun.source.tree.VariableTree;
import com.sun.source.tree.WhileLoopTree;
import com.sun.source.util.JavacTask;
import com.sun.source.util.TreePath;
import com.sun.source.util.TreePathScanner;
import com.sun.source.util.Trees;
import java.nio.file.Path;
import java.util.HashSet;
import java.util.Map;
import java.util.Set;
import java.util.TreeMap;
import java.util.TreeSet;
import javax.lang.model.element.Element;
import javax.lang.model.element.ElementKind;
import javax.lang.model.element.VariableElement;
import javax.lang.model.type.TypeMirror;
import javax.tools.JavaCompiler;
import javax.tools.StandardJavaFileManager;
import javax.tools.ToolProvider;

/** The rules of LANGUAGE.md that need the compiler's tree of the class: who calls whom, of which types, with what. */
public final class SourceTreeTest extends TreePathScanner<Void, Void> {
    private static final int DEEPEST_CALL = 8;
    private static final Set<String> LISTED = Set.of("Arrays.fill(int[],int)", "System.arraycopy(java.lang.Object,int,"
            + "java.lang.Object,int,int)", "Integer.bitCount(int)", "Integer.numberOfTrailingZeros(int)",
            "Math.max(int,int)", "Math.min(int,int)", "Math.floorMod(int,int)", "String.length()",
            "String.charAt(int)", "String.indexOf(int)", "Object.Object()");
    private static final Set<String> PLAIN = Set.of("int", "long", "short", "byte", "char", "boolean", "java.lang.String");

    private final Trees trees;
    private final Map<String, Set<String>> calls = new TreeMap<>();
    private final Set<String> face = new TreeSet<>();
    private String method = "";

    private SourceTreeTest(Trees trees) {
        this.trees = trees;
    }

    public static void main(String[] args) throws Exception {
        JavaCompiler compiler = ToolProvider.getSystemJavaCompiler();
        StandardJavaFileManager files = compiler.getStandardFileManager(null, null, null);
        JavacTask task = (JavacTask) compiler.getTask(null, files, null, null, null,
                files.getJavaFileObjects(Path.of("src/main/java/LaneDoors.java")));
        SourceTreeTest test = new SourceTreeTest(Trees.instance(task));
        Iterable<? extends CompilationUnitTree> units = task.parse();
        task.analyze();
        for (CompilationUnitTree unit : units) {
            test.scan(unit, null);
        }
        Checks.due("methods of the face that were seen", test.face.size(), 52);
        test.depthOfCalls();
        Checks.finish();
    }

    // ---- who calls whom

    @Override
    public Void visitMethod(MethodTree tree, Void none) {
        Element element = trees.getElement(getCurrentPath());
        method = nameOf(element);
        calls.putIfAbsent(method, new TreeSet<>());
        if (element.getModifiers().contains(javax.lang.model.element.Modifier.PUBLIC)) {
            face.add(method);
        }
        super.visitMethod(tree, none);
        method = "";
        return null;
    }

    @Override
    public Void visitMethodInvocation(MethodInvocationTree tree, Void none) {
        Element called = trees.getElement(getCurrentPath());
        if (isOwn(called)) {
            calls.computeIfAbsent(method, m -> new TreeSet<>()).add(nameOf(called));
        } else {
            Checks.due(at(tree) + nameOf(called) + " is listed", LISTED.contains(nameOf(called)), true);
        }
        return super.visitMethodInvocation(tree, none);
    }

    private static boolean isOwn(Element called) {
        return called.getEnclosingElement().toString().startsWith("LaneDoors");
    }

    private static String nameOf(Element called) {
        return called.getEnclosingElement().getSimpleName() + "." + called;
    }

    /** Methods that call one another by a ring count as one call: that is the recursion. */
    private void depthOfCalls() {
        Set<String> rings = new TreeSet<>();
        for (String each : calls.keySet()) {
            if (reached(each).contains(each)) {
                rings.add(each.replaceAll("\\(.*", ""));
            }
        }
        Checks.due("only the reader of oil is recursive, not " + rings, rings.equals(
                Set.of("Reader.readChain", "Reader.readPart", "Reader.readOne", "Reader.readUnit")), true);
        for (String each : face) {
            int depth = depthFrom(each);
            Checks.due("calls from " + each + " go " + depth + " deep, which is too deep,", depth > DEEPEST_CALL, false);
        }
    }

    private Set<String> reached(String from) {
        Set<String> all = new HashSet<>();
        collect(from, all);
        return all;
    }

    private void collect(String from, Set<String> all) {
        for (String to : calls.getOrDefault(from, Set.of())) {
            if (all.add(to)) {
                collect(to, all);
            }
        }
    }

    private int depthFrom(String from) {
        Set<String> ring = new HashSet<>(Set.of(from));
        for (String each : reached(from)) {
            if (reached(each).contains(from)) {
                ring.add(each);
            }
        }
        int most = 0;
        for (String each : ring) {
            for (String to : calls.getOrDefault(each, Set.of())) {
                most = ring.contains(to) ? most : Math.max(most, depthFrom(to));
            }
        }
        return most + 1;
    }

    // ---- types, objects and arrays

    @Override
    public Void visitVariable(VariableTree tree, Void none) {
        TypeMirror type = trees.getTypeMirror(new TreePath(getCurrentPath(), tree.getType()));
        String name = type.toString().replaceFirst("\\[\\]$", "");
        Checks.due(at(tree) + type + " is a type to be used", PLAIN.contains(name) || name.startsWith("LaneDoors."), true);
        return super.visitVariable(tree, none);
    }

    @Override
    public Void visitNewClass(NewClassTree tree, Void none) {
        Checks.due(at(tree) + "no anonymous class", tree.getClassBody() == null, true);
        Checks.due(at(tree) + "objects are made by constructors alone", isMaking(), true);
        return super.visitNewClass(tree, none);
    }

    @Override
    public Void visitNewArray(NewArrayTree tree, Void none) {
        Checks.due(at(tree) + "rows are made by constructors alone", isMaking(), true);
        Checks.due(at(tree) + "one dimension", tree.getDimensions().size(), 1);
        for (ExpressionTree length : tree.getDimensions()) {
            Checks.due(at(tree) + length + " is a constant length", isConstant(length), true);
        }
        return super.visitNewArray(tree, none);
    }

    private boolean isMaking() {
        return method.isEmpty() || method.matches("(\\w+)\\.\\1\\(.*");
    }

    @Override
    public Void visitTypeCast(TypeCastTree tree, Void none) {
        Checks.due(at(tree) + "casts among numbers alone", tree.getType().getKind() == Tree.Kind.PRIMITIVE_TYPE, true);
        return super.visitTypeCast(tree, none);
    }

    // ---- what might throw or not end

    @Override
    public Void visitBinary(BinaryTree tree, Void none) {
        if (tree.getKind() == Tree.Kind.DIVIDE || tree.getKind() == Tree.Kind.REMAINDER) {
            Checks.due(at(tree) + "the divisor is looked at", isConstant(tree.getRightOperand())
                    || isBehindTestForZero(tree.getRightOperand().toString()), true);
        }
        TypeMirror type = trees.getTypeMirror(getCurrentPath());
        Checks.due(at(tree) + "no texts are joined by +", type.toString().equals("java.lang.String"), false);
        return super.visitBinary(tree, none);
    }

    private boolean isBehindTestForZero(String divisor) {
        Tree around = getCurrentPath().getParentPath().getLeaf();
        return around instanceof ConditionalExpressionTree c
                && c.getCondition().toString().equals(divisor + " == 0");
    }

    private boolean isConstant(ExpressionTree tree) {
        if (tree instanceof com.sun.source.tree.LiteralTree literal) {
            return literal.getValue() instanceof Integer value && value != 0;
        }
        Element element = trees.getElement(new TreePath(getCurrentPath(), tree));
        return element instanceof VariableElement constant && constant.getConstantValue() instanceof Integer value
                && value > 0;
    }

    @Override
    public Void visitWhileLoop(WhileLoopTree tree, Void none) {
        Checks.due(at(tree) + "the loop has a bound", tree.getCondition().toString().contains("<"), true);
        return super.visitWhileLoop(tree, none);
    }

    @Override
    public Void visitForLoop(ForLoopTree tree, Void none) {
        boolean isBound = tree.getCondition() != null && tree.getCondition().toString().matches("(?s).*[<>].*");
        Checks.due(at(tree) + "the loop has a bound", isBound && tree.getUpdate().size() == 1, true);
        return super.visitForLoop(tree, none);
    }

    @Override
    public Void visitDoWhileLoop(DoWhileLoopTree tree, Void none) {
        return refuse(tree, "do");
    }

    // ---- what there may not be at all

    @Override
    public Void visitClass(ClassTree tree, Void none) {
        Element around = trees.getElement(getCurrentPath()).getEnclosingElement();
        boolean isTop = tree.getSimpleName().contentEquals("LaneDoors");
        Checks.due(at(tree) + "a class stands in LaneDoors itself",
                isTop || around.getKind() == ElementKind.CLASS && around.getSimpleName().contentEquals("LaneDoors"), true);
        for (Tree member : tree.getMembers()) {
            Checks.due(at(member) + "no block beside the methods", member instanceof BlockTree, false);
        }
        return super.visitClass(tree, none);
    }

    @Override
    public Void visitLambdaExpression(LambdaExpressionTree tree, Void none) {
        return refuse(tree, "lambda");
    }

    @Override
    public Void visitMemberReference(MemberReferenceTree tree, Void none) {
        return refuse(tree, "method reference");
    }

    @Override
    public Void visitThrow(ThrowTree tree, Void none) {
        return refuse(tree, "throw");
    }

    @Override
    public Void visitTry(TryTree tree, Void none) {
        return refuse(tree, "try");
    }

    @Override
    public Void visitAssert(AssertTree tree, Void none) {
        return refuse(tree, "assert");
    }

    @Override
    public Void visitSynchronized(SynchronizedTree tree, Void none) {
        return refuse(tree, "synchronized");
    }

    private Void refuse(Tree tree, String what) {
        Checks.due(at(tree) + "no " + what, false, true);
        return null;
    }

    private String at(Tree tree) {
        CompilationUnitTree unit = getCurrentPath().getCompilationUnit();
        long place = trees.getSourcePositions().getStartPosition(unit, tree);
        return "line " + (place < 0 ? 0 : unit.getLineMap().getLineNumber(place)) + ": ";
    }
}
