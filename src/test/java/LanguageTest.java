import com.sun.source.tree.BlockTree;
import com.sun.source.tree.ClassTree;
import com.sun.source.tree.CompilationUnitTree;
import com.sun.source.tree.MethodInvocationTree;
import com.sun.source.tree.MethodTree;
import com.sun.source.tree.NewArrayTree;
import com.sun.source.tree.NewClassTree;
import com.sun.source.tree.Tree;
import com.sun.source.tree.VariableTree;
import com.sun.source.util.JavacTask;
import com.sun.source.util.TreePath;
import com.sun.source.util.TreePathScanner;
import com.sun.source.util.Trees;
import java.io.IOException;
import java.nio.file.Path;
import java.util.ArrayList;
import java.util.Comparator;
import java.util.HashMap;
import java.util.LinkedHashMap;
import java.util.List;
import java.util.Map;
import java.util.Set;
import java.util.TreeSet;
import javax.lang.model.element.Element;
import javax.lang.model.element.Modifier;
import javax.tools.JavaCompiler;
import javax.tools.StandardJavaFileManager;
import javax.tools.ToolProvider;

/** What of ../shared/LANGUAGE.md can be seen in the file's tree. */
public final class LanguageTest {
    private static final Set<Tree.Kind> RULED_OUT = Set.of(Tree.Kind.THROW, Tree.Kind.TRY, Tree.Kind.CATCH,
        Tree.Kind.SYNCHRONIZED, Tree.Kind.ASSERT, Tree.Kind.LAMBDA_EXPRESSION, Tree.Kind.MEMBER_REFERENCE,
        Tree.Kind.IMPORT, Tree.Kind.PACKAGE, Tree.Kind.STRING_LITERAL);
    /** A subset of rule 4: what the file uses now. */
    private static final Set<String> LIBRARY = Set.of("java.lang.System.arraycopy", "java.lang.Math.min",
        "java.lang.Math.max");

    private final CompilationUnitTree unit;
    private final Trees trees;
    private final List<String> faults = new ArrayList<>();
    private final Map<Element, Set<Element>> calls = new LinkedHashMap<>();
    private final Set<String> publicNames = new TreeSet<>();
    private final List<MethodTree> hidden = new ArrayList<>();
    private int classes;

    private LanguageTest(CompilationUnitTree unit, Trees trees) {
        this.unit = unit;
        this.trees = trees;
    }

    public static void main(String[] args) throws IOException {
        Path file = Path.of(args.length > 0 ? args[0] : ".", "src/main/java/MatchFund.java");
        JavaCompiler compiler = ToolProvider.getSystemJavaCompiler();
        StandardJavaFileManager files = compiler.getStandardFileManager(null, null, null);
        JavacTask task = (JavacTask) compiler.getTask(null, files, null, List.of("-proc:none"), null,
            files.getJavaFileObjects(file));
        CompilationUnitTree unit = task.parse().iterator().next();
        task.analyze();
        LanguageTest test = new LanguageTest(unit, Trees.instance(task));
        test.scanAll();
        test.faults.forEach(System.out::println);
        Check.due("breaches of LANGUAGE.md", test.faults.size(), 0);
        Check.end("LanguageTest");
    }

    private void scanAll() {
        new Scanner().scan(unit, null);
        for (MethodTree m : hidden) {
            if (publicNames.contains(m.getName().toString())) {
                faults.add("rule 1: a hidden method is named " + m.getName());
            }
        }
        if (classes > 12) {
            faults.add("rule 11: " + classes + " classes");
        }
        int deepest = calls.keySet().stream().map(this::depth).max(Comparator.naturalOrder()).orElse(0);
        if (deepest > 8) {
            faults.add("rule 11: calls go " + deepest + " deep");
        }
    }

    private final Map<Element, Integer> depths = new HashMap<>();
    private final Set<Element> open = new java.util.HashSet<>();

    /** How deep calls go from here, each method of a recursion once. */
    private int depth(Element method) {
        if (depths.containsKey(method)) {
            return depths.get(method);
        }
        if (!open.add(method)) {
            return 0;
        }
        int below = 0;
        for (Element called : calls.getOrDefault(method, Set.of())) {
            below = Math.max(below, depth(called));
        }
        open.remove(method);
        if (open.isEmpty()) {
            depths.put(method, below + 1);
        }
        return below + 1;
    }

    private final class Scanner extends TreePathScanner<Void, Void> {
        private Element method;
        private boolean inField;

        private long line(Tree tree) {
            return unit.getLineMap().getLineNumber(trees.getSourcePositions().getStartPosition(unit, tree));
        }

        private void fault(Tree tree, String rule) {
            faults.add("line " + line(tree) + ", " + rule);
        }

        @Override
        public Void scan(Tree tree, Void none) {
            if (tree != null && RULED_OUT.contains(tree.getKind())) {
                fault(tree, "ruled out: " + tree.getKind());
            }
            return super.scan(tree, none);
        }

        @Override
        public Void visitClass(ClassTree tree, Void none) {
            classes++;
            boolean inside = getCurrentPath().getParentPath().getLeaf() instanceof ClassTree;
            if (inside && !tree.getModifiers().getFlags().contains(Modifier.STATIC)) {
                fault(tree, "rule 2: a class inside that is not static");
            }
            int fields = 0;
            for (Tree member : tree.getMembers()) {
                if (member instanceof VariableTree v && !v.getModifiers().getFlags().contains(Modifier.STATIC)) {
                    fields++;
                }
                if (member instanceof BlockTree) {
                    fault(member, "rule 5: an initialiser block");
                }
            }
            if (fields > 20) {
                fault(tree, "rule 11: " + fields + " fields");
            }
            return super.visitClass(tree, none);
        }

        @Override
        public Void visitVariable(VariableTree tree, Void none) {
            boolean field = getCurrentPath().getParentPath().getLeaf() instanceof ClassTree;
            Set<Modifier> flags = tree.getModifiers().getFlags();
            if (field && flags.contains(Modifier.STATIC) && !flags.contains(Modifier.FINAL)) {
                fault(tree, "rule 5: a static field that is not final");
            }
            inField = field;
            super.visitVariable(tree, none);
            inField = false;
            return null;
        }

        @Override
        public Void visitMethod(MethodTree tree, Void none) {
            method = trees.getElement(getCurrentPath());
            calls.computeIfAbsent(method, m -> new java.util.LinkedHashSet<>());
            boolean maker = tree.getName().contentEquals("<init>");
            if (!maker && tree.getModifiers().getFlags().contains(Modifier.PUBLIC)) {
                publicNames.add(tree.getName().toString());
            } else if (!maker) {
                hidden.add(tree);
            }
            long end = unit.getLineMap().getLineNumber(
                Math.max(0, trees.getSourcePositions().getEndPosition(unit, tree)));
            if (end - line(tree) > 60) {
                fault(tree, "rule 11: a long method");
            }
            if (tree.getParameters().size() > 7) {
                fault(tree, "rule 11: too many parameters");
            }
            return super.visitMethod(tree, none);
        }

        @Override
        public Void visitMethodInvocation(MethodInvocationTree tree, Void none) {
            Element called = trees.getElement(new TreePath(getCurrentPath(), tree.getMethodSelect()));
            String owner = called.getEnclosingElement().toString();
            if (owner.startsWith("java.")) {
                String name = owner + "." + called.getSimpleName();
                boolean makesOne = called.getSimpleName().contentEquals("<init>");
                if (!makesOne && !LIBRARY.contains(name)) {
                    fault(tree, "rule 4: " + name);
                }
            } else if (method != null) {
                calls.get(method).add(called);
            }
            return super.visitMethodInvocation(tree, none);
        }

        @Override
        public Void visitNewClass(NewClassTree tree, Void none) {
            if (!inField || tree.getClassBody() != null) {
                fault(tree, "an object that is made by a call: the run's room is never given back");
            }
            return super.visitNewClass(tree, none);
        }

        @Override
        public Void visitNewArray(NewArrayTree tree, Void none) {
            if (!inField) {
                fault(tree, "an array that is made by a call: the run's room is never given back");
            }
            return super.visitNewArray(tree, none);
        }
    }
}
