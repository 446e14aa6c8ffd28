import com.sun.source.tree.AssertTree;
import com.sun.source.tree.ClassTree;
import com.sun.source.tree.CompilationUnitTree;
import com.sun.source.tree.DoWhileLoopTree;
import com.sun.source.tree.ExpressionTree;
import com.sun.source.tree.ForLoopTree;
import com.sun.source.tree.IdentifierTree;
import com.sun.source.tree.LambdaExpressionTree;
import com.sun.source.tree.LineMap;
import com.sun.source.tree.LiteralTree;
import com.sun.source.tree.MemberReferenceTree;
import com.sun.source.tree.MemberSelectTree;
import com.sun.source.tree.MethodTree;
import com.sun.source.tree.NewArrayTree;
import com.sun.source.tree.NewClassTree;
import com.sun.source.tree.ParenthesizedTree;
import com.sun.source.tree.SynchronizedTree;
import com.sun.source.tree.ThrowTree;
import com.sun.source.tree.Tree;
import com.sun.source.tree.TryTree;
import com.sun.source.tree.TypeCastTree;
import com.sun.source.tree.VariableTree;
import com.sun.source.tree.WhileLoopTree;
import com.sun.source.util.JavacTask;
import com.sun.source.util.SourcePositions;
import com.sun.source.util.TreePathScanner;
import com.sun.source.util.Trees;
import java.io.File;
import java.io.IOException;
import java.util.HashSet;
import java.util.List;
import java.util.Map;
import java.util.Set;
import java.util.TreeMap;
import java.util.TreeSet;
import javax.lang.model.element.Element;
import javax.lang.model.element.ElementKind;
import javax.lang.model.element.ExecutableElement;
import javax.lang.model.element.Modifier;
import javax.lang.model.element.TypeElement;
import javax.lang.model.element.VariableElement;
import javax.lang.model.type.ArrayType;
import javax.lang.model.type.TypeKind;
import javax.lang.model.type.TypeMirror;
import javax.tools.JavaCompiler;
import javax.tools.StandardJavaFileManager;
import javax.tools.ToolProvider;

/** The rules of ../shared/LANGUAGE.md, as far as the source shows them, in the tree that javac makes of it. */
public final class LanguageTest extends TreePathScanner<Void, Void> {
    private static final String SOURCE = "src/main/java/BoxedPages.java";
    private static final Set<String> NUMBERS = Set.of("java.lang.Integer", "java.lang.Long", "java.lang.Math");
    private static final Set<TypeKind> PLAIN = Set.of(TypeKind.INT, TypeKind.LONG, TypeKind.SHORT, TypeKind.BYTE,
        TypeKind.CHAR, TypeKind.BOOLEAN);

    private final Trees trees;
    private final CompilationUnitTree unit;
    private final Map<String, Set<String>> calls = new TreeMap<>();
    private final Set<String> recursive = new TreeSet<>();
    private int classes = 0;

    private LanguageTest(Trees trees, CompilationUnitTree unit) {
        this.trees = trees;
        this.unit = unit;
    }

    public static void main(String[] args) throws IOException {
        JavaCompiler compiler = ToolProvider.getSystemJavaCompiler();
        try (StandardJavaFileManager files = compiler.getStandardFileManager(null, null, null)) {
            JavacTask task = (JavacTask) compiler.getTask(null, files, null, List.of("-proc:none"), null,
                files.getJavaFileObjects(new File(SOURCE)));
            CompilationUnitTree unit = task.parse().iterator().next();
            task.analyze();
            LanguageTest test = new LanguageTest(Trees.instance(task), unit);
            test.oneFile();
            test.scan(unit, null);
            test.depths();
        }
        Checks.end();
    }

    private static void never(String rule, Tree what) {
        Checks.sentence(rule);
        Checks.due("what may not be there: " + what, true, false);
    }

    private Element element() {
        return trees.getElement(getCurrentPath());
    }

    private static boolean isOwn(Element element) {
        Element above = element;
        while (above != null && !above.toString().equals("BoxedPages")) {
            above = above.getEnclosingElement();
        }
        return above != null;
    }

    private void oneFile() {
        Checks.sentence("one file, without a package line");
        Checks.due("no package", unit.getPackageName() == null, true);
        Checks.due("no import: nothing of java.util is used", unit.getImports().size(), 0);
        Checks.due("one class outside", unit.getTypeDecls().size(), 1);
    }

    @Override
    public Void visitClass(ClassTree node, Void none) {
        classes++;
        Checks.sentence("rules 2, 11");
        Element self = element();
        Checks.due("no class within a method: " + node.getSimpleName(),
            self.getEnclosingElement().getKind() != ElementKind.METHOD && node.getSimpleName().length() > 0, true);
        int fields = 0;
        for (Element member : self.getEnclosedElements()) {
            boolean field = member.getKind() == ElementKind.FIELD && !member.getModifiers().contains(Modifier.STATIC);
            fields += field ? 1 : 0;
        }
        Checks.due("some twenty fields in " + node.getSimpleName(), fields <= 20, true);
        return super.visitClass(node, none);
    }

    @Override
    public Void visitVariable(VariableTree node, Void none) {
        Checks.sentence("rules 3, 5");
        VariableElement variable = (VariableElement) element();
        Checks.due("its type: " + node, isAllowed(variable.asType()), true);
        if (variable.getModifiers().contains(Modifier.STATIC)) {
            Checks.due("a constant: " + node, variable.getConstantValue() != null, true);
        }
        return super.visitVariable(node, none);
    }

    private static boolean isAllowed(TypeMirror type) {
        if (type instanceof ArrayType array) {
            TypeMirror inside = array.getComponentType();
            boolean rows = inside instanceof ArrayType row && PLAIN.contains(row.getComponentType().getKind());
            return rows || !(inside instanceof ArrayType) && isAllowed(inside);
        }
        return PLAIN.contains(type.getKind()) || type.toString().startsWith("BoxedPages.");
    }

    @Override
    public Void visitMethod(MethodTree node, Void none) {
        Checks.sentence("rules 8, 11");
        Checks.due("seven parameters at most: " + node.getName(), node.getParameters().size() <= 7, true);
        SourcePositions places = trees.getSourcePositions();
        LineMap lines = unit.getLineMap();
        long first = lines.getLineNumber(Math.max(0, places.getStartPosition(unit, node)));
        long last = lines.getLineNumber(Math.max(0, places.getEndPosition(unit, node)));
        Checks.due("some sixty lines at most: " + node.getName(), last - first < 60, true);
        calls.computeIfAbsent(told(element()), key -> new TreeSet<>());
        return super.visitMethod(node, none);
    }

    private static String told(Element method) {
        return method.getEnclosingElement() + "." + method;
    }

    @Override
    public Void visitIdentifier(IdentifierTree node, Void none) {
        use(element(), node);
        return super.visitIdentifier(node, none);
    }

    @Override
    public Void visitMemberSelect(MemberSelectTree node, Void none) {
        use(element(), node);
        return super.visitMemberSelect(node, none);
    }

    private void use(Element used, Tree where) {
        Checks.sentence("rules 3, 4");
        if (used == null || used.getKind() == ElementKind.PACKAGE || where.toString().endsWith(".length")) {
            return;
        }
        if (isOwn(used)) {
            noteCall(used);
        } else {
            Checks.due("what is used of the library: " + where, isListed(used), true);
        }
    }

    /** Rule 4, as far as the class has use for it. */
    private static boolean isListed(Element used) {
        String owner = used.getEnclosingElement().toString();
        if (used instanceof TypeElement) {
            return NUMBERS.contains(used.toString()) || used.toString().equals("java.lang.System");
        }
        if (!(used instanceof ExecutableElement method)) {
            return false;
        }
        boolean whole = isWhole(method.getReturnType());
        for (VariableElement parameter : method.getParameters()) {
            whole &= isWhole(parameter.asType());
        }
        boolean number = NUMBERS.contains(owner) && whole && !method.getSimpleName().toString().endsWith("Exact");
        return number && method.getModifiers().contains(Modifier.STATIC)
            || owner.equals("java.lang.System") && method.getSimpleName().contentEquals("arraycopy")
            || owner.equals("java.lang.Object") && method.getKind() == ElementKind.CONSTRUCTOR;
    }

    private static boolean isWhole(TypeMirror type) {
        return type.getKind() == TypeKind.INT || type.getKind() == TypeKind.LONG;
    }

    private void noteCall(Element called) {
        Element caller = enclosingMethod();
        if (caller == null || !(called instanceof ExecutableElement)) {
            return;
        }
        if (called.equals(caller)) {
            recursive.add(told(called));
            boolean fine = called.getModifiers().containsAll(Set.of(Modifier.PRIVATE, Modifier.STATIC));
            Checks.sentence("rule 8");
            Checks.due("a private static method: " + called, fine, true);
        } else {
            calls.computeIfAbsent(told(caller), key -> new TreeSet<>()).add(told(called));
        }
    }

    private Element enclosingMethod() {
        for (Tree tree : getCurrentPath()) {
            if (tree instanceof MethodTree) {
                return trees.getElement(trees.getPath(unit, tree));
            }
        }
        return null;
    }

    private void depths() {
        Checks.sentence("rules 8, 11");
        Checks.due("some twelve classes", classes <= 12, true);
        int deepest = 0;
        for (String method : calls.keySet()) {
            deepest = Math.max(deepest, depth(method, new HashSet<>()));
        }
        System.out.println("calls go " + deepest + " deep; those that call themselves: " + recursive);
        Checks.due("at most eight deep", deepest <= 8, true);
    }

    private int depth(String method, Set<String> open) {
        if (!open.add(method)) {
            Checks.due("methods that call one another: " + open, true, false);
            return 0;
        }
        int below = 0;
        for (String called : calls.getOrDefault(method, Set.of())) {
            below = Math.max(below, depth(called, open));
        }
        open.remove(method);
        return below + 1;
    }

    @Override
    public Void visitNewClass(NewClassTree node, Void none) {
        Checks.sentence("rules 2, 12");
        Checks.due("no class without a name: " + node, node.getClassBody() == null, true);
        made(node);
        noteCall(element());
        return super.visitNewClass(node, none);
    }

    @Override
    public Void visitNewArray(NewArrayTree node, Void none) {
        Checks.sentence("rule 12");
        made(node);
        return super.visitNewArray(node, none);
    }

    /** All objects are made by constructors, so that no number of calls can fill the room. */
    private void made(Tree node) {
        Element maker = enclosingMethod();
        Checks.due("made by a constructor: " + node, maker == null || maker.getKind() == ElementKind.CONSTRUCTOR, true);
    }

    @Override
    public Void visitTypeCast(TypeCastTree node, Void none) {
        Checks.sentence("rule 6");
        Checks.due("a cast to a number: " + node, isWhole(trees.getTypeMirror(getCurrentPath())), true);
        return super.visitTypeCast(node, none);
    }

    @Override
    public Void visitForLoop(ForLoopTree node, Void none) {
        loop(node.getCondition(), node);
        return super.visitForLoop(node, none);
    }

    @Override
    public Void visitWhileLoop(WhileLoopTree node, Void none) {
        loop(node.getCondition(), node);
        return super.visitWhileLoop(node, none);
    }

    @Override
    public Void visitDoWhileLoop(DoWhileLoopTree node, Void none) {
        loop(node.getCondition(), node);
        return super.visitDoWhileLoop(node, none);
    }

    private static void loop(ExpressionTree condition, Tree node) {
        Checks.sentence("rule 9");
        ExpressionTree bare = condition instanceof ParenthesizedTree p ? p.getExpression() : condition;
        Checks.due("a loop has a bound: " + node, bare != null && !(bare instanceof LiteralTree), true);
    }

    @Override
    public Void visitLambdaExpression(LambdaExpressionTree node, Void none) {
        never("rule 2, no lambda", node);
        return null;
    }

    @Override
    public Void visitMemberReference(MemberReferenceTree node, Void none) {
        never("rule 2, no method reference", node);
        return null;
    }

    @Override
    public Void visitThrow(ThrowTree node, Void none) {
        never("rule 6, the document has no call throw", node);
        return null;
    }

    @Override
    public Void visitTry(TryTree node, Void none) {
        never("rule 6, nothing throws that could be caught", node);
        return null;
    }

    @Override
    public Void visitSynchronized(SynchronizedTree node, Void none) {
        never("rule 6", node);
        return null;
    }

    @Override
    public Void visitAssert(AssertTree node, Void none) {
        never("rule 6", node);
        return null;
    }
}
