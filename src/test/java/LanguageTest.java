import com.sun.source.tree.AssertTree;
import com.sun.source.tree.ClassTree;
import com.sun.source.tree.CompilationUnitTree;
import com.sun.source.tree.LambdaExpressionTree;
import com.sun.source.tree.MemberReferenceTree;
import com.sun.source.tree.MethodInvocationTree;
import com.sun.source.tree.MethodTree;
import com.sun.source.tree.NewClassTree;
import com.sun.source.tree.SynchronizedTree;
import com.sun.source.tree.ThrowTree;
import com.sun.source.tree.Tree;
import com.sun.source.tree.TryTree;
import com.sun.source.tree.VariableTree;
import com.sun.source.util.JavacTask;
import com.sun.source.util.TreePathScanner;
import com.sun.source.util.Trees;
import java.io.File;
import java.util.HashMap;
import java.util.HashSet;
import java.util.List;
import java.util.Map;
import java.util.Set;
import java.util.TreeSet;
import javax.lang.model.element.Element;
import javax.lang.model.element.ElementKind;
import javax.lang.model.element.Modifier;
import javax.lang.model.element.TypeElement;
import javax.tools.JavaCompiler;
import javax.tools.StandardJavaFileManager;
import javax.tools.ToolProvider;

/** The rules of LANGUAGE.md that can be seen from the class's own lines. */
public final class LanguageTest {
    private static final String FILE = "src/main/java/ZonedFabric.java";
    private static final Set<String> FACE = Set.of("disc", "wire", "cut", "join", "zone", "zoning", "domain", "flip", "tick",
        "read", "write", "status", "got", "when", "block", "way", "record", "port", "address", "frame", "count", "broken");
    private static final Set<String> LIBRARY = Set.of("java.lang.Math.min", "java.lang.System.arraycopy", "java.lang.Object.<init>");
    private static int wrong = 0;

    private final Map<Element, Set<Element>> calls = new HashMap<>();
    private final Map<Element, Integer> depths = new HashMap<>();
    private final Set<String> publicMethods = new TreeSet<>();
    private int classes = 0;
    private int methods = 0;

    public static void main(String[] args) throws Exception {
        JavaCompiler compiler = ToolProvider.getSystemJavaCompiler();
        try (StandardJavaFileManager files = compiler.getStandardFileManager(null, null, null)) {
            JavacTask task = (JavacTask) compiler.getTask(null, files, null, List.of("-proc:none"), null,
                files.getJavaFileObjects(new File(FILE)));
            CompilationUnitTree unit = task.parse().iterator().next();
            task.analyze();
            new LanguageTest().look(unit, Trees.instance(task));
        }
        if (wrong > 0) {
            System.exit(1);
        }
    }

    private static void rule(int number, boolean kept, String what) {
        if (!kept) {
            wrong++;
            System.out.println("rule " + number + ": " + what);
        }
    }

    private void look(CompilationUnitTree unit, Trees trees) {
        rule(1, unit.getPackageName() == null, "a package");
        rule(4, unit.getImports().isEmpty(), "an import");
        new Looker(unit, trees).scan(unit, null);
        rule(1, publicMethods.equals(new TreeSet<>(FACE)), "the face is " + publicMethods);
        rule(11, classes <= 12, classes + " classes");
        int deepest = 0;
        for (Element method : calls.keySet()) {
            int depth = depth(method, new HashSet<>());
            deepest = Math.max(deepest, depth);
            rule(11, depth <= 8, method + " goes " + depth + " deep");
        }
        System.out.println(classes + " classes, " + methods + " methods, " + deepest + " deep");
    }

    private int depth(Element method, Set<Element> open) {
        Integer known = depths.get(method);
        if (known != null) {
            return known;
        }
        rule(8, open.add(method), method + " calls itself");
        int most = 0;
        for (Element called : calls.getOrDefault(method, Set.of())) {
            if (calls.containsKey(called) && !open.contains(called)) {
                most = Math.max(most, depth(called, open));
            }
        }
        open.remove(method);
        depths.put(method, most + 1);
        return most + 1;
    }

    private final class Looker extends TreePathScanner<Void, Element> {
        private final CompilationUnitTree unit;
        private final Trees trees;

        Looker(CompilationUnitTree unit, Trees trees) {
            this.unit = unit;
            this.trees = trees;
        }

        private long line(long position) {
            return unit.getLineMap().getLineNumber(position);
        }

        private void forbid(int rule, Tree tree, String what) {
            rule(rule, false, what + " in line " + line(trees.getSourcePositions().getStartPosition(unit, tree)));
        }

        @Override
        public Void visitClass(ClassTree tree, Element in) {
            classes++;
            Element one = trees.getElement(getCurrentPath());
            Set<Modifier> modifiers = tree.getModifiers().getFlags();
            if (one.getEnclosingElement() instanceof TypeElement) {
                rule(2, modifiers.contains(Modifier.STATIC) && !modifiers.contains(Modifier.PUBLIC), one + " is not static");
            } else {
                rule(1, modifiers.contains(Modifier.PUBLIC) && modifiers.contains(Modifier.FINAL), one + " is not public and final");
            }
            int fields = 0;
            for (Tree member : tree.getMembers()) {
                if (member instanceof VariableTree) {
                    Set<Modifier> flags = ((VariableTree) member).getModifiers().getFlags();
                    fields += flags.contains(Modifier.STATIC) ? 0 : 1;
                    rule(5, !flags.contains(Modifier.STATIC) || flags.contains(Modifier.FINAL), "static and not final: " + member);
                    rule(1, !in(one) || flags.contains(Modifier.PRIVATE), "a field that is not private: " + member);
                }
            }
            rule(11, fields <= 20, one + " has " + fields + " fields");
            return super.visitClass(tree, in);
        }

        private boolean in(Element one) {
            return one.getSimpleName().contentEquals("ZonedFabric");
        }

        @Override
        public Void visitMethod(MethodTree tree, Element in) {
            Element method = trees.getElement(getCurrentPath());
            String name = tree.getName().toString();
            Set<Modifier> flags = tree.getModifiers().getFlags();
            long first = line(trees.getSourcePositions().getStartPosition(unit, tree));
            long last = line(trees.getSourcePositions().getEndPosition(unit, tree));
            methods++;
            calls.put(method, new HashSet<>());
            rule(11, tree.getParameters().size() <= 7, name + " has too many parameters");
            rule(11, last - first < 60, name + " has too many lines");
            if (in(method.getEnclosingElement()) && !name.equals("<init>")) {
                rule(1, flags.contains(Modifier.PUBLIC) || flags.contains(Modifier.PRIVATE), name + " is neither public nor private");
                if (flags.contains(Modifier.PUBLIC)) {
                    publicMethods.add(name);
                }
            }
            rule(1, !FACE.contains(name) || flags.contains(Modifier.PUBLIC), name + " bears the name of a public one");
            return super.visitMethod(tree, method);
        }

        private void call(Element called, Element in, Tree tree) {
            String of = called.getEnclosingElement().toString();
            if (!of.startsWith("ZonedFabric")) {
                String full = of + "." + called.getSimpleName();
                rule(4, LIBRARY.contains(full), full + " in line " + line(trees.getSourcePositions().getStartPosition(unit, tree)));
            } else if (in != null && called.getKind() != ElementKind.CLASS) {
                calls.get(in).add(called);
            }
        }

        @Override
        public Void visitMethodInvocation(MethodInvocationTree tree, Element in) {
            call(trees.getElement(getCurrentPath()), in, tree);
            return super.visitMethodInvocation(tree, in);
        }

        @Override
        public Void visitNewClass(NewClassTree tree, Element in) {
            call(trees.getElement(getCurrentPath()), in, tree);
            rule(2, tree.getClassBody() == null, "an anonymous class");
            return super.visitNewClass(tree, in);
        }

        @Override
        public Void visitThrow(ThrowTree tree, Element in) {
            forbid(6, tree, "throw");
            return super.visitThrow(tree, in);
        }

        @Override
        public Void visitTry(TryTree tree, Element in) {
            forbid(6, tree, "try");
            return super.visitTry(tree, in);
        }

        @Override
        public Void visitAssert(AssertTree tree, Element in) {
            forbid(6, tree, "assert");
            return super.visitAssert(tree, in);
        }

        @Override
        public Void visitSynchronized(SynchronizedTree tree, Element in) {
            forbid(6, tree, "synchronized");
            return super.visitSynchronized(tree, in);
        }

        @Override
        public Void visitLambdaExpression(LambdaExpressionTree tree, Element in) {
            forbid(2, tree, "a lambda");
            return super.visitLambdaExpression(tree, in);
        }

        @Override
        public Void visitMemberReference(MemberReferenceTree tree, Element in) {
            forbid(2, tree, "a method reference");
            return super.visitMemberReference(tree, in);
        }
    }
}
