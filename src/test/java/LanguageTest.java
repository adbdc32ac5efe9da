import com.sun.source.tree.AssertTree;
import com.sun.source.tree.BinaryTree;
import com.sun.source.tree.ClassTree;
import com.sun.source.tree.CompilationUnitTree;
import com.sun.source.tree.CompoundAssignmentTree;
import com.sun.source.tree.LambdaExpressionTree;
import com.sun.source.tree.MemberReferenceTree;
import com.sun.source.tree.MethodInvocationTree;
import com.sun.source.tree.MethodTree;
import com.sun.source.tree.NewArrayTree;
import com.sun.source.tree.NewClassTree;
import com.sun.source.tree.SynchronizedTree;
import com.sun.source.tree.ThrowTree;
import com.sun.source.tree.Tree;
import com.sun.source.tree.TryTree;
import com.sun.source.tree.TypeCastTree;
import com.sun.source.tree.VariableTree;
import com.sun.source.util.JavacTask;
import com.sun.source.util.TreePath;
import com.sun.source.util.TreePathScanner;
import com.sun.source.util.Trees;
import java.io.IOException;
import java.nio.file.Path;
import java.util.HashMap;
import java.util.HashSet;
import java.util.List;
import java.util.Map;
import java.util.Set;
import javax.lang.model.element.Element;
import javax.lang.model.element.ElementKind;
import javax.lang.model.element.Modifier;
import javax.tools.JavaCompiler;
import javax.tools.StandardJavaFileManager;
import javax.tools.ToolProvider;

/**
 * The rules of LANGUAGE.md that can be read off the source of the program. What the program does not use at all
 * (try, casts of objects, lists, texts put together) is not told apart here but refused as a whole.
 */
public final class LanguageTest extends TreePathScanner<Void, Void> {
    private static final Path SOURCE = Path.of("src/main/java/GlacierCamera.java");
    private static final Set<String> LIBRARY = Set.of("java.lang.String.length", "java.lang.String.charAt", "java.lang.Math.min",
        "java.lang.Math.max", "java.lang.Math.abs", "java.lang.Math.floorDiv", "java.lang.Math.floorMod");
    private static final Set<String> EXCEPTIONS = Set.of("IllegalStateException", "IndexOutOfBoundsException");
    private static final int MOST_PARAMETERS = 7, MOST_LINES = 60, MOST_CLASSES = 12, MOST_FIELDS = 20, DEEPEST_CALL = 8;

    private final Trees trees;
    private final CompilationUnitTree unit;
    private final Map<Element, Set<Element>> calls = new HashMap<>();
    private Element caller = null;
    private int classes = 0;

    private LanguageTest(Trees trees, CompilationUnitTree unit) {
        this.trees = trees;
        this.unit = unit;
    }

    public static void main(String[] args) throws IOException {
        JavaCompiler compiler = ToolProvider.getSystemJavaCompiler();
        try (StandardJavaFileManager files = compiler.getStandardFileManager(null, null, null)) {
            JavacTask task = (JavacTask) compiler.getTask(null, files, null, List.of("--release", "17"), null,
                files.getJavaFileObjects(SOURCE));
            CompilationUnitTree unit = task.parse().iterator().next();
            task.analyze();
            LanguageTest test = new LanguageTest(Trees.instance(task), unit);
            test.scan(new TreePath(unit), null);
            test.whole();
        }
        Check.finish();
    }

    private void whole() {
        Check.equal("package line", unit.getPackageName() == null, true);
        Check.equal("imports", unit.getImports().size(), 0);
        Check.equal("classes beside each other", unit.getTypeDecls().size(), 1);
        Check.equal("at most " + MOST_CLASSES + " classes", classes > 0 && classes <= MOST_CLASSES, true);
        for (Element method : calls.keySet()) {
            int depth = depth(method, new HashSet<>());
            Check.equal(method + " calls at most " + DEEPEST_CALL + " deep", depth <= DEEPEST_CALL, true);
        }
    }

    private int depth(Element method, Set<Element> open) {
        if (!open.add(method)) {
            refuse("recursion of " + method);
            return 0;
        }
        int deepest = 0;
        for (Element called : calls.getOrDefault(method, Set.of())) {
            deepest = Math.max(deepest, depth(called, open));
        }
        open.remove(method);
        return deepest + 1;
    }

    private void refuse(String what) {
        Check.equal(what, "used", "not used");
    }

    private void refuse(String what, Tree tree) {
        long start = trees.getSourcePositions().getStartPosition(unit, tree);
        refuse(what + " in line " + unit.getLineMap().getLineNumber(start));
    }

    private int lines(Tree tree) {
        long start = unit.getLineMap().getLineNumber(trees.getSourcePositions().getStartPosition(unit, tree));
        return (int) (unit.getLineMap().getLineNumber(trees.getSourcePositions().getEndPosition(unit, tree)) - start + 1);
    }

    private Element element() {
        return trees.getElement(getCurrentPath());
    }

    private static boolean isOwn(Element owner) {
        return owner.toString().startsWith("GlacierCamera");
    }

    /** Whether objects may be made here: rows are made in constructors and used again. */
    private boolean inMaking() {
        return caller == null || caller.getKind() == ElementKind.CONSTRUCTOR;
    }

    @Override
    public Void visitClass(ClassTree tree, Void none) {
        classes++;
        Set<Modifier> modifiers = tree.getModifiers().getFlags();
        boolean outer = getCurrentPath().getParentPath().getLeaf() == unit;
        if (!outer && (!modifiers.contains(Modifier.STATIC) || modifiers.contains(Modifier.PUBLIC))) {
            refuse("class that is not static, or public", tree);
        }
        int fields = 0;
        for (Tree member : tree.getMembers()) {
            if (member instanceof VariableTree field) {
                boolean constant = field.getModifiers().getFlags().contains(Modifier.STATIC);
                fields += constant ? 0 : 1;
                if (constant && !field.getModifiers().getFlags().contains(Modifier.FINAL)) {
                    refuse("static field that is not final", field);
                }
            } else if (member.getKind() == Tree.Kind.BLOCK) {
                refuse("initialiser block", member);
            }
        }
        Check.equal(tree.getSimpleName() + " has at most " + MOST_FIELDS + " fields", fields <= MOST_FIELDS, true);
        return super.visitClass(tree, none);
    }

    @Override
    public Void visitMethod(MethodTree tree, Void none) {
        Check.equal(tree.getName() + " has few parameters", tree.getParameters().size() <= MOST_PARAMETERS, true);
        Check.equal(tree.getName() + " is short", lines(tree) <= MOST_LINES, true);
        Set<String> ownTexts = Set.of("equals", "hashCode", "toString");
        if (ownTexts.contains(tree.getName().toString())) {
            refuse("method " + tree.getName(), tree);
        }
        caller = element();
        calls.putIfAbsent(caller, new HashSet<>());
        super.visitMethod(tree, none);
        caller = null;
        return null;
    }

    @Override
    public Void visitMethodInvocation(MethodInvocationTree tree, Void none) {
        Element called = element();
        String name = called.getEnclosingElement() + "." + called.getSimpleName();
        if (called.getKind() == ElementKind.METHOD) {
            if (!isOwn(called.getEnclosingElement()) && !LIBRARY.contains(name)) {
                refuse(name, tree);
            } else if (isOwn(called.getEnclosingElement()) && caller != null) {
                calls.get(caller).add(called);
            }
        }
        return super.visitMethodInvocation(tree, none);
    }

    @Override
    public Void visitNewClass(NewClassTree tree, Void none) {
        boolean thrown = getCurrentPath().getParentPath().getLeaf() instanceof ThrowTree;
        if (!thrown && (!inMaking() || !isOwn(element().getEnclosingElement()))) {
            refuse("new " + tree.getIdentifier(), tree);
        }
        return super.visitNewClass(tree, none);
    }

    @Override
    public Void visitNewArray(NewArrayTree tree, Void none) {
        if (!inMaking()) {
            refuse("new array", tree);
        }
        return super.visitNewArray(tree, none);
    }

    @Override
    public Void visitThrow(ThrowTree tree, Void none) {
        boolean allowed = tree.getExpression() instanceof NewClassTree made
            && EXCEPTIONS.contains(made.getIdentifier().toString()) && made.getArguments().size() <= 1
            && made.getArguments().stream().allMatch(text -> text.getKind() == Tree.Kind.STRING_LITERAL);
        if (!allowed || inMaking()) {
            refuse("throw", tree);
        }
        return super.visitThrow(tree, none);
    }

    @Override
    public Void visitBinary(BinaryTree tree, Void none) {
        if (trees.getTypeMirror(getCurrentPath()).toString().endsWith("String")) {
            refuse("text joined by +", tree);
        }
        return super.visitBinary(tree, none);
    }

    @Override
    public Void visitCompoundAssignment(CompoundAssignmentTree tree, Void none) {
        if (trees.getTypeMirror(getCurrentPath()).toString().endsWith("String")) {
            refuse("text joined by +=", tree);
        }
        return super.visitCompoundAssignment(tree, none);
    }

    @Override
    public Void visitTypeCast(TypeCastTree tree, Void none) {
        if (!trees.getTypeMirror(getCurrentPath()).getKind().isPrimitive()) {
            refuse("cast of an object", tree);
        }
        return super.visitTypeCast(tree, none);
    }

    @Override
    public Void visitTry(TryTree tree, Void none) {
        refuse("try", tree);
        return super.visitTry(tree, none);
    }

    @Override
    public Void visitLambdaExpression(LambdaExpressionTree tree, Void none) {
        refuse("lambda", tree);
        return super.visitLambdaExpression(tree, none);
    }

    @Override
    public Void visitMemberReference(MemberReferenceTree tree, Void none) {
        refuse("method reference", tree);
        return super.visitMemberReference(tree, none);
    }

    @Override
    public Void visitSynchronized(SynchronizedTree tree, Void none) {
        refuse("synchronized", tree);
        return super.visitSynchronized(tree, none);
    }

    @Override
    public Void visitAssert(AssertTree tree, Void none) {
        refuse("assert", tree);
        return super.visitAssert(tree, none);
    }
}
