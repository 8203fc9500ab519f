import com.sun.source.tree.AssertTree;
import com.sun.source.tree.ClassTree;
import com.sun.source.tree.CompilationUnitTree;
import com.sun.source.tree.ImportTree;
import com.sun.source.tree.LambdaExpressionTree;
import com.sun.source.tree.MemberReferenceTree;
import com.sun.source.tree.MethodInvocationTree;
import com.sun.source.tree.MethodTree;
import com.sun.source.tree.NewClassTree;
import com.sun.source.tree.SynchronizedTree;
import com.sun.source.tree.ThrowTree;
import com.sun.source.tree.Tree;
import com.sun.source.tree.TryTree;
import com.sun.source.tree.VariableTree;
import com.sun.source.util.JavacTask;
import com.sun.source.util.TreePathScanner;
import com.sun.source.util.Trees;
import java.io.File;
import java.io.IOException;
import java.util.ArrayList;
import java.util.HashMap;
import java.util.HashSet;
import java.util.LinkedHashMap;
import java.util.List;
import java.util.Map;
import java.util.Set;
import javax.lang.model.element.Element;
import javax.lang.model.element.ElementKind;
import javax.lang.model.element.Modifier;
import javax.tools.JavaCompiler;
import javax.tools.StandardJavaFileManager;
import javax.tools.ToolProvider;

/** Those rules of LANGUAGE.md that can be read off the source. */
public final class LanguageTest extends TreePathScanner<Void, Void> {
    private static final File SOURCE = new File("src/main/java/WornLines.java");
    private static final Set<String> LIBRARY = Set.of("java.util.Arrays", "java.util.NoSuchElementException");
    private static final Set<String> STATIC = Set.of("int", "long", "boolean", "char", "String", "Token[]", "int[]",
            "long[]", "char[]", "byte[]");
    private static final Set<String> CALLS = Set.of("length", "charAt", "values", "fill", "copyOf", "arraycopy", "max",
            "min", "this", "super");

    private final Check check = new Check();
    private final Trees trees;
    private final CompilationUnitTree unit;
    private final Map<Element, Set<Element>> calls = new LinkedHashMap<>();
    private final Set<String> face = new HashSet<>();
    private final List<MethodTree> hidden = new ArrayList<>();
    private Element method;
    private int classes;

    private LanguageTest(Trees trees, CompilationUnitTree unit) {
        this.trees = trees;
        this.unit = unit;
    }

    public static void main(String[] args) throws IOException {
        JavaCompiler compiler = ToolProvider.getSystemJavaCompiler();
        StandardJavaFileManager files = compiler.getStandardFileManager(null, null, null);
        JavacTask task = (JavacTask) compiler.getTask(null, files, null, List.of("-proc:none"), null,
                files.getJavaFileObjects(SOURCE));
        CompilationUnitTree unit = task.parse().iterator().next();
        task.analyze();
        LanguageTest test = new LanguageTest(Trees.instance(task), unit);
        test.scan(unit, null);
        test.atTheEnd();
        test.check.end();
    }

    private void refuse(int rule, String what) {
        check.due("rule " + rule + ": " + what, false, true);
    }

    private void atTheEnd() {
        check.due("rule 11: twelve classes at most", classes <= 12, true);
        for (MethodTree one : hidden) {
            if (face.contains(one.getName().toString())) {
                refuse(1, one.getName() + " bears the name of a public method");
            }
        }
        for (Element from : calls.keySet()) {
            int depth = depth(from, new HashMap<>(), new HashSet<>());
            check.due("rule 11: calls from " + from + " go " + depth + " deep, 8 at most", depth <= 8, true);
        }
    }

    /** A method on the path already is recursion: it is not counted again. */
    private int depth(Element from, Map<Element, Integer> known, Set<Element> open) {
        if (known.containsKey(from)) {
            return known.get(from);
        }
        if (!open.add(from)) {
            return 0;
        }
        int most = 0;
        for (Element to : calls.getOrDefault(from, Set.of())) {
            most = Math.max(most, depth(to, known, open));
        }
        open.remove(from);
        if (open.isEmpty()) {
            known.put(from, most + 1);
        }
        return most + 1;
    }

    @Override
    public Void visitImport(ImportTree tree, Void v) {
        if (!LIBRARY.contains(tree.getQualifiedIdentifier().toString())) {
            refuse(4, tree.toString());
        }
        return super.visitImport(tree, v);
    }

    @Override
    public Void visitClass(ClassTree tree, Void v) {
        classes++;
        int fields = 0;
        for (Tree member : tree.getMembers()) {
            if (member instanceof VariableTree field) {
                boolean isStatic = field.getModifiers().getFlags().contains(Modifier.STATIC);
                fields += isStatic ? 0 : 1;
                if (isStatic) {
                    checkStatic(field);
                }
            } else if (member.getKind() == Tree.Kind.BLOCK) {
                refuse(5, "an initialiser block");
            }
        }
        check.due("rule 11: fields of " + tree.getSimpleName(), fields <= 20 || tree.getKind() == Tree.Kind.ENUM, true);
        return super.visitClass(tree, v);
    }

    private void checkStatic(VariableTree field) {
        Element element = trees.getElement(trees.getPath(unit, field));
        if (element != null && element.getKind() == ElementKind.ENUM_CONSTANT) {
            return;
        }
        boolean isFinal = field.getModifiers().getFlags().contains(Modifier.FINAL);
        if (!isFinal || !STATIC.contains(field.getType().toString())) {
            refuse(5, "static " + field.getName());
        }
    }

    @Override
    public Void visitMethod(MethodTree tree, Void v) {
        Element outer = method;
        method = trees.getElement(getCurrentPath());
        calls.putIfAbsent(method, new HashSet<>());
        if (tree.getModifiers().getFlags().contains(Modifier.PUBLIC)) {
            face.add(tree.getName().toString());
        } else if (tree.getReturnType() != null) {
            hidden.add(tree);
        }
        check.due("rule 11: parameters of " + tree.getName(), tree.getParameters().size() <= 7, true);
        long start = trees.getSourcePositions().getStartPosition(unit, tree);
        long end = trees.getSourcePositions().getEndPosition(unit, tree);
        if (end > start && start >= 0) {
            long lines = unit.getLineMap().getLineNumber(end) - unit.getLineMap().getLineNumber(start) + 1;
            check.due("rule 11: " + lines + " lines of " + tree.getName(), lines <= 60, true);
        }
        super.visitMethod(tree, v);
        method = outer;
        return null;
    }

    @Override
    public Void visitMethodInvocation(MethodInvocationTree tree, Void v) {
        Element to = trees.getElement(getCurrentPath());
        String owner = to.getEnclosingElement().toString();
        if (!owner.startsWith("WornLines") && !CALLS.contains(to.getSimpleName().toString())
                && to.getKind() != ElementKind.CONSTRUCTOR) {
            refuse(4, "call of " + owner + "." + to);
        }
        if (method != null) {
            calls.get(method).add(to);
        }
        return super.visitMethodInvocation(tree, v);
    }

    @Override
    public Void visitNewClass(NewClassTree tree, Void v) {
        if (tree.getClassBody() != null) {
            refuse(2, "an anonymous class");
        }
        return super.visitNewClass(tree, v);
    }

    @Override
    public Void visitThrow(ThrowTree tree, Void v) {
        check.due("rule 6: " + tree, tree.getExpression().toString().startsWith("new NoSuchElementException(\""), true);
        return super.visitThrow(tree, v);
    }

    @Override
    public Void visitTry(TryTree tree, Void v) {
        refuse(6, "try, which nothing here needs");
        return super.visitTry(tree, v);
    }

    @Override
    public Void visitLambdaExpression(LambdaExpressionTree tree, Void v) {
        refuse(2, "a lambda");
        return super.visitLambdaExpression(tree, v);
    }

    @Override
    public Void visitMemberReference(MemberReferenceTree tree, Void v) {
        refuse(2, "a method reference");
        return super.visitMemberReference(tree, v);
    }

    @Override
    public Void visitSynchronized(SynchronizedTree tree, Void v) {
        refuse(6, "synchronized");
        return super.visitSynchronized(tree, v);
    }

    @Override
    public Void visitAssert(AssertTree tree, Void v) {
        refuse(6, "assert");
        return super.visitAssert(tree, v);
    }
}
