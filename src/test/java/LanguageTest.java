import com.sun.source.tree.ClassTree;
import com.sun.source.tree.CompilationUnitTree;
import com.sun.source.tree.MethodInvocationTree;
import com.sun.source.tree.MethodTree;
import com.sun.source.tree.NewClassTree;
import com.sun.source.tree.Tree;
import com.sun.source.tree.VariableTree;
import com.sun.source.util.JavacTask;
import com.sun.source.util.TreePath;
import com.sun.source.util.TreePathScanner;
import com.sun.source.util.Trees;
import java.lang.reflect.Method;
import java.lang.reflect.Modifier;
import java.nio.file.Files;
import java.nio.file.Path;
import java.util.ArrayDeque;
import java.util.ArrayList;
import java.util.Deque;
import java.util.HashMap;
import java.util.HashSet;
import java.util.List;
import java.util.Map;
import java.util.Set;
import java.util.TreeSet;
import javax.lang.model.element.Element;
import javax.lang.model.element.ExecutableElement;
import javax.tools.JavaCompiler;
import javax.tools.StandardJavaFileManager;
import javax.tools.ToolProvider;

/** The rules of LANGUAGE.md that can be seen in the program's text, and the face that the document tells. */
public final class LanguageTest extends TreePathScanner<Void, Void> {
    private static final Path SOURCE = Path.of("src/main/java/SoleraCellar.java");
    private static final Set<String> LIBRARY = Set.of("java.lang.Math.max", "java.lang.Math.min", "java.lang.String.length",
        "java.lang.String.charAt", "java.lang.System.arraycopy", "java.lang.Object.<init>");
    private static final Set<Tree.Kind> BARRED = Set.of(Tree.Kind.THROW, Tree.Kind.TRY, Tree.Kind.CATCH, Tree.Kind.SYNCHRONIZED,
        Tree.Kind.ASSERT, Tree.Kind.LAMBDA_EXPRESSION, Tree.Kind.MEMBER_REFERENCE, Tree.Kind.IMPORT);
    private static final Due DUE = new Due();

    private final Trees trees;
    private final CompilationUnitTree unit;
    private final Map<String, Set<String>> calls = new HashMap<>();
    private final Set<String> names = new HashSet<>();
    private final Deque<String> methods = new ArrayDeque<>();
    private int classes;

    private LanguageTest(Trees trees, CompilationUnitTree unit) {
        this.trees = trees;
        this.unit = unit;
    }

    public static void main(String[] args) throws Exception {
        JavaCompiler compiler = ToolProvider.getSystemJavaCompiler();
        StandardJavaFileManager files = compiler.getStandardFileManager(null, null, null);
        JavacTask task = (JavacTask) compiler.getTask(null, files, null, List.of("-proc:none"), null, files.getJavaFileObjects(SOURCE));
        CompilationUnitTree unit = task.parse().iterator().next();
        task.analyze();
        LanguageTest test = new LanguageTest(Trees.instance(task), unit);
        test.scan(unit, null);
        DUE.isTrue("at most twelve classes", test.classes <= 12);
        test.checkDepth();
        test.checkFace();
        DUE.finish();
    }

    @Override
    public Void scan(Tree tree, Void nothing) {
        if (tree != null && BARRED.contains(tree.getKind())) {
            DUE.isTrue("line " + lineOf(tree) + ": " + tree.getKind(), false);
        }
        return super.scan(tree, nothing);
    }

    private long lineOf(Tree tree) {
        return unit.getLineMap().getLineNumber(trees.getSourcePositions().getStartPosition(unit, tree));
    }

    private long lastLineOf(Tree tree) {
        return unit.getLineMap().getLineNumber(trees.getSourcePositions().getEndPosition(unit, tree));
    }

    private Element element(Tree tree) {
        return trees.getElement(new TreePath(getCurrentPath(), tree));
    }

    @Override
    public Void visitClass(ClassTree tree, Void nothing) {
        classes++;
        Set<javax.lang.model.element.Modifier> modifiers = tree.getModifiers().getFlags();
        boolean outer = tree.getSimpleName().contentEquals("SoleraCellar");
        DUE.isTrue(tree.getSimpleName() + " is static or the one", outer || modifiers.contains(javax.lang.model.element.Modifier.STATIC));
        int fields = 0;
        for (Tree member : tree.getMembers()) {
            if (member instanceof VariableTree field) {
                Set<javax.lang.model.element.Modifier> flags = field.getModifiers().getFlags();
                boolean isStatic = flags.contains(javax.lang.model.element.Modifier.STATIC);
                fields += isStatic ? 0 : 1;
                if (isStatic) {
                    DUE.isTrue(field.getName() + " is final", flags.contains(javax.lang.model.element.Modifier.FINAL));
                    DUE.isTrue(field.getName() + " is a plain constant",
                        Set.of("int", "long", "boolean", "char", "String").contains(field.getType().toString()));
                }
            }
        }
        DUE.isTrue(tree.getSimpleName() + " has at most twenty fields", fields <= 20);
        return super.visitClass(tree, nothing);
    }

    @Override
    public Void visitMethod(MethodTree tree, Void nothing) {
        String name = nameOf((ExecutableElement) trees.getElement(getCurrentPath()));
        names.add(tree.getName().toString() + (tree.getModifiers().getFlags().contains(javax.lang.model.element.Modifier.PUBLIC) ? "" : "!"));
        DUE.isTrue(name + " takes at most seven", tree.getParameters().size() <= 7);
        DUE.isTrue(name + " has at most sixty lines", lastLineOf(tree) - lineOf(tree) < 60);
        calls.computeIfAbsent(name, k -> new TreeSet<>());
        methods.push(name);
        super.visitMethod(tree, nothing);
        methods.pop();
        return null;
    }

    private static String nameOf(ExecutableElement method) {
        return method.getEnclosingElement() + "." + method.getSimpleName();
    }

    private void called(Element element) {
        if (!(element instanceof ExecutableElement method)) {
            return;
        }
        String name = nameOf(method);
        if (name.startsWith("SoleraCellar")) {
            if (!methods.isEmpty()) {
                calls.get(methods.peek()).add(name);
            }
        } else {
            DUE.isTrue("library: " + name, LIBRARY.contains(name));
        }
    }

    @Override
    public Void visitMethodInvocation(MethodInvocationTree tree, Void nothing) {
        called(element(tree));
        return super.visitMethodInvocation(tree, nothing);
    }

    @Override
    public Void visitNewClass(NewClassTree tree, Void nothing) {
        DUE.isTrue("line " + lineOf(tree) + " makes no anonymous class", tree.getClassBody() == null);
        called(element(tree));
        return super.visitNewClass(tree, nothing);
    }

    /** Methods that call one another count once; the document's limits hold how deep those go. */
    private void checkDepth() {
        Map<String, Set<String>> reach = new HashMap<>();
        for (String from : calls.keySet()) {
            Set<String> seen = new HashSet<>();
            Deque<String> open = new ArrayDeque<>(calls.get(from));
            while (!open.isEmpty()) {
                String next = open.pop();
                if (seen.add(next)) {
                    open.addAll(calls.getOrDefault(next, Set.of()));
                }
            }
            reach.put(from, seen);
        }
        Map<String, List<String>> deepest = new HashMap<>();
        for (String from : calls.keySet()) {
            List<String> path = deepestFrom(from, reach, deepest);
            DUE.isTrue("calls go at most eight deep: " + path, path.size() <= 8);
        }
        for (String name : names) {
            DUE.isTrue("no other method has the name of " + name, name.startsWith("<") || !names.contains(name + "!"));
        }
    }

    private List<String> deepestFrom(String from, Map<String, Set<String>> reach, Map<String, List<String>> known) {
        if (known.containsKey(from)) {
            return known.get(from);
        }
        Set<String> group = new TreeSet<>(Set.of(from));
        for (String other : calls.keySet()) {
            if (reach.get(from).contains(other) && reach.get(other).contains(from)) {
                group.add(other);
            }
        }
        List<String> best = List.of();
        for (String member : group) {
            for (String next : calls.get(member)) {
                if (!group.contains(next) && calls.containsKey(next)) {
                    List<String> path = deepestFrom(next, reach, known);
                    best = path.size() > best.size() ? path : best;
                }
            }
        }
        List<String> path = new ArrayList<>();
        path.add(String.join("|", group));
        path.addAll(best);
        for (String member : group) {
            known.put(member, path);
        }
        return path;
    }

    private void checkFace() throws Exception {
        Set<String> due = new TreeSet<>();
        for (String line : Files.readAllLines(Path.of("../shared/DOC.md"))) {
            String text = line.trim();
            if (line.startsWith("    public ") && text.endsWith(");") && !text.contains("SoleraCellar(")) {
                due.add(text.replace("public ", "").replaceAll("(int|long) \\w+([,)])", "$1$2").replace(";", ""));
            }
        }
        Set<String> got = new TreeSet<>();
        for (Method method : SoleraCellar.class.getDeclaredMethods()) {
            if (Modifier.isPublic(method.getModifiers())) {
                List<String> types = new ArrayList<>();
                for (Class<?> type : method.getParameterTypes()) {
                    types.add(type.getName());
                }
                got.add(method.getReturnType() + " " + method.getName() + "(" + String.join(", ", types) + ")");
            } else {
                DUE.isTrue(method.getName() + " is private", Modifier.isPrivate(method.getModifiers()));
            }
        }
        DUE.is("methods of the face", got.size(), 37);
        DUE.isTrue("the face is the document's: " + due + " and " + got, got.equals(due));
        DUE.is("public fields", SoleraCellar.class.getFields().length, 1);
        DUE.is("NONE", SoleraCellar.NONE, -1);
        DUE.isTrue("public and final", SoleraCellar.class.getModifiers() == (Modifier.PUBLIC | Modifier.FINAL));
    }
}
