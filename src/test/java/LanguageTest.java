import com.sun.source.tree.AssertTree;
import com.sun.source.tree.BinaryTree;
import com.sun.source.tree.BlockTree;
import com.sun.source.tree.ClassTree;
import com.sun.source.tree.CompilationUnitTree;
import com.sun.source.tree.CompoundAssignmentTree;
import com.sun.source.tree.ImportTree;
import com.sun.source.tree.LambdaExpressionTree;
import com.sun.source.tree.LiteralTree;
import com.sun.source.tree.MemberReferenceTree;
import com.sun.source.tree.MethodInvocationTree;
import com.sun.source.tree.MethodTree;
import com.sun.source.tree.NewClassTree;
import com.sun.source.tree.PackageTree;
import com.sun.source.tree.SynchronizedTree;
import com.sun.source.tree.ThrowTree;
import com.sun.source.tree.Tree;
import com.sun.source.tree.TryTree;
import com.sun.source.tree.VariableTree;
import com.sun.source.util.JavacTask;
import com.sun.source.util.TreePathScanner;
import com.sun.source.util.Trees;
import java.io.IOException;
import java.nio.file.Path;
import java.util.HashMap;
import java.util.HashSet;
import java.util.List;
import java.util.Map;
import java.util.Set;
import java.util.TreeMap;
import java.util.TreeSet;
import javax.lang.model.element.Element;
import javax.lang.model.element.ElementKind;
import javax.lang.model.element.Modifier;
import javax.lang.model.element.TypeElement;
import javax.tools.JavaCompiler;
import javax.tools.StandardJavaFileManager;
import javax.tools.ToolProvider;

/** The rules of LANGUAGE.md that can be seen in the source as it stands; those on what a run does are not among them. */
public final class LanguageTest extends TreePathScanner<Void, Void> {
    private static final Path SOURCE = Path.of("src/main/java/Allstreets.java");
    private static final Check CHECK = new Check();
    // What the class needs of the library of rule 4; another call that the rule lists is to be added here first.
    private static final Set<String> LIBRARY = Set.of("StringBuilder.append(char)", "StringBuilder.append(int)",
        "StringBuilder.toString()", "StringBuilder.StringBuilder()", "IndexOutOfBoundsException.IndexOutOfBoundsException"
        + "(java.lang.String)", "IllegalArgumentException.IllegalArgumentException(java.lang.String)", "Object.Object()");
    private static final Set<String> EXCEPTIONS = Set.of("IllegalStateException", "IllegalArgumentException",
        "IndexOutOfBoundsException", "ArithmeticException", "UnsupportedOperationException", "NoSuchElementException",
        "RuntimeException");

    private final Trees trees;
    private final CompilationUnitTree unit;
    private final Map<String, Set<String>> calls = new TreeMap<>();
    private String method = "";
    private boolean isConstructor;
    private int classes;

    private LanguageTest(Trees trees, CompilationUnitTree unit) {
        this.trees = trees;
        this.unit = unit;
    }

    public static void main(String[] args) throws IOException {
        JavaCompiler compiler = ToolProvider.getSystemJavaCompiler();
        try (StandardJavaFileManager files = compiler.getStandardFileManager(null, null, null)) {
            JavacTask task = (JavacTask) compiler.getTask(null, files, null, List.of(), null,
                files.getJavaFileObjects(SOURCE));
            CompilationUnitTree unit = task.parse().iterator().next();
            LanguageTest rules = new LanguageTest(Trees.instance(task), unit);
            task.analyze();
            rules.scan(unit, null);
            CHECK.due("rule 1: one class of the file's own", unit.getTypeDecls().size(), 1);
            CHECK.due("rule 11: some twelve classes at most", rules.classes <= 12, true);
            rules.depths();
        }
        CHECK.end();
    }

    private void refuse(String rule, Tree where) {
        long line = unit.getLineMap().getLineNumber(trees.getSourcePositions().getStartPosition(unit, where));
        CHECK.fail("line " + line + ": " + rule);
    }

    @Override
    public Void visitPackage(PackageTree tree, Void none) {
        refuse("rule 1, no package", tree);
        return null;
    }

    @Override
    public Void visitImport(ImportTree tree, Void none) {
        refuse("rule 4, no import is needed so far", tree);
        return null;
    }

    @Override
    public Void visitClass(ClassTree tree, Void none) {
        classes++;
        int fields = 0;
        for (Tree member : tree.getMembers()) {
            if (member instanceof VariableTree field) {
                boolean isStatic = field.getModifiers().getFlags().contains(Modifier.STATIC);
                fields += isStatic ? 0 : 1;
                if (isStatic && !field.getModifiers().getFlags().contains(Modifier.FINAL)) {
                    refuse("rule 5, a static field is final", field);
                }
            } else if (member instanceof BlockTree) {
                refuse("rule 5, no initialiser block", member);
            }
        }
        if (fields > 20) {
            refuse("rule 11, some twenty fields", tree);
        }
        return super.visitClass(tree, none);
    }

    @Override
    public Void visitMethod(MethodTree tree, Void none) {
        Element element = trees.getElement(getCurrentPath());
        method = nameOf(element);
        isConstructor = element.getKind() == ElementKind.CONSTRUCTOR;
        calls.put(method, new TreeSet<>());
        if (List.of("equals", "hashCode", "toString").contains(tree.getName().toString())) {
            refuse("rule 6, no equals, hashCode or toString", tree);
        }
        if (tree.getParameters().size() > 7) {
            refuse("rule 11, seven parameters at most", tree);
        }
        long start = trees.getSourcePositions().getStartPosition(unit, tree);
        long end = trees.getSourcePositions().getEndPosition(unit, tree);
        if (start >= 0 && unit.getLineMap().getLineNumber(end) - unit.getLineMap().getLineNumber(start) >= 60) {
            refuse("rule 11, some sixty lines at most", tree);
        }
        return super.visitMethod(tree, none);
    }

    @Override
    public Void visitMethodInvocation(MethodInvocationTree tree, Void none) {
        called(trees.getElement(getCurrentPath()), tree);
        return super.visitMethodInvocation(tree, none);
    }

    @Override
    public Void visitNewClass(NewClassTree tree, Void none) {
        called(trees.getElement(getCurrentPath()), tree);
        return super.visitNewClass(tree, none);
    }

    private void called(Element element, Tree where) {
        if (element.getEnclosingElement().toString().matches("Allstreets(\\..*)?")) {
            calls.computeIfAbsent(method, m -> new TreeSet<>()).add(nameOf(element));
        } else if (!LIBRARY.contains(nameOf(element))) {
            refuse("rule 4, " + nameOf(element) + " is not in the list", where);
        }
    }

    private static String nameOf(Element element) {
        TypeElement owner = (TypeElement) element.getEnclosingElement();
        String name = element.toString();
        return owner.getSimpleName() + "." + name;
    }

    @Override
    public Void visitThrow(ThrowTree tree, Void none) {
        boolean isLet = tree.getExpression() instanceof NewClassTree made
            && EXCEPTIONS.contains(made.getIdentifier().toString())
            && made.getArguments().stream().allMatch(a -> a.getKind() == Tree.Kind.STRING_LITERAL);
        if (!isLet || isConstructor) {
            refuse("rule 6, throw new E() or E(\"a written text\"), in no constructor", tree);
        }
        return super.visitThrow(tree, none);
    }

    @Override
    public Void visitTry(TryTree tree, Void none) {
        refuse("the class needs no try", tree);
        return super.visitTry(tree, none);
    }

    @Override
    public Void visitLambdaExpression(LambdaExpressionTree tree, Void none) {
        refuse("rule 2, no lambda", tree);
        return null;
    }

    @Override
    public Void visitMemberReference(MemberReferenceTree tree, Void none) {
        refuse("rule 2, no method reference", tree);
        return null;
    }

    @Override
    public Void visitSynchronized(SynchronizedTree tree, Void none) {
        refuse("rule 6, no synchronized", tree);
        return null;
    }

    @Override
    public Void visitAssert(AssertTree tree, Void none) {
        refuse("rule 6, no assert", tree);
        return null;
    }

    @Override
    public Void visitBinary(BinaryTree tree, Void none) {
        if (tree.getKind() == Tree.Kind.PLUS && isText(tree)) {
            refuse("rule 10, texts are joined by StringBuilder", tree);
        }
        return super.visitBinary(tree, none);
    }

    @Override
    public Void visitCompoundAssignment(CompoundAssignmentTree tree, Void none) {
        if (isText(tree)) {
            refuse("rule 10, texts are joined by StringBuilder", tree);
        }
        return super.visitCompoundAssignment(tree, none);
    }

    private boolean isText(Tree tree) {
        return "java.lang.String".equals(String.valueOf(trees.getTypeMirror(getCurrentPath())));
    }

    @Override
    public Void visitLiteral(LiteralTree tree, Void none) {
        if (tree.getValue() instanceof String text && !text.chars().allMatch(c -> c >= 1 && c <= 127)) {
            refuse("rule 4, the signs of a text are 1 to 127", tree);
        }
        return null;
    }

    // Without recursion each chain of calls has an end: the longest one is asked.
    private void depths() {
        Map<String, Integer> known = new HashMap<>();
        for (String one : calls.keySet()) {
            int depth = depthOf(one, known, new HashSet<>());
            if (depth > 8) {
                CHECK.fail("rule 11, calls go eight deep at most: " + one + " goes " + depth);
            }
        }
    }

    private int depthOf(String one, Map<String, Integer> known, Set<String> open) {
        if (!open.add(one)) {
            CHECK.fail("rule 8, " + one + " calls itself, at last");
            return 1000;
        }
        Integer depth = known.get(one);
        if (depth == null) {
            depth = 1;
            for (String next : calls.getOrDefault(one, Set.of())) {
                depth = Math.max(depth, 1 + depthOf(next, known, open));
            }
            known.put(one, depth);
        }
        open.remove(one);
        return depth;
    }
}
