import com.sun.source.tree.BinaryTree;
import com.sun.source.tree.ClassTree;
import com.sun.source.tree.CompilationUnitTree;
import com.sun.source.tree.MethodInvocationTree;
import com.sun.source.tree.MethodTree;
import com.sun.source.tree.NewArrayTree;
import com.sun.source.tree.NewClassTree;
import com.sun.source.tree.ThrowTree;
import com.sun.source.tree.Tree;
import com.sun.source.tree.VariableTree;
import com.sun.source.util.JavacTask;
import com.sun.source.util.TreePath;
import com.sun.source.util.TreePathScanner;
import com.sun.source.util.Trees;
import java.io.IOException;
import java.nio.file.Path;
import java.util.HashMap;
import java.util.HashSet;
import java.util.List;
import java.util.Map;
import java.util.Set;
import java.util.TreeMap;
import javax.lang.model.element.Element;
import javax.lang.model.element.ElementKind;
import javax.lang.model.element.Modifier;
import javax.tools.JavaCompiler;
import javax.tools.StandardJavaFileManager;
import javax.tools.ToolProvider;

/** Rules of ../shared/LANGUAGE.md that are seen in the compiler's tree of the program. */
public final class LanguageTest {
    private static final Path SOURCE = Path.of("src/main/java/SpeedDesk.java");
    private static final Set<String> LIBRARY = Set.of("java.lang.String.length", "java.lang.String.charAt", "java.lang.Math.max", "java.lang.Math.min",
        "java.lang.Math.abs", "java.lang.Math.floorMod", "java.lang.Math.floorDiv", "java.lang.System.arraycopy");
    private static final Set<Tree.Kind> NOT_ALLOWED = Set.of(Tree.Kind.LAMBDA_EXPRESSION, Tree.Kind.MEMBER_REFERENCE, Tree.Kind.ASSERT, Tree.Kind.SYNCHRONIZED,
        Tree.Kind.TRY, Tree.Kind.SWITCH_EXPRESSION, Tree.Kind.INSTANCE_OF, Tree.Kind.PACKAGE);
    private static final int DEEPEST = 8;
    private static final Checks CHECKS = new Checks();

    private final Trees trees;
    private final CompilationUnitTree unit;
    private final Map<String, Set<String>> calls = new TreeMap<>();
    private final Set<String> face = new HashSet<>();
    private int classes;

    private LanguageTest(JavacTask task) throws IOException {
        unit = task.parse().iterator().next();
        task.analyze();
        trees = Trees.instance(task);
    }

    public static void main(String[] args) throws IOException {
        JavaCompiler compiler = ToolProvider.getSystemJavaCompiler();
        try (StandardJavaFileManager files = compiler.getStandardFileManager(null, null, null)) {
            JavacTask task = (JavacTask) compiler.getTask(null, files, null, List.of("-proc:none"), null, files.getJavaFileObjects(SOURCE));
            LanguageTest test = new LanguageTest(task);
            test.new Scanner().scan(test.unit, null);
            test.callsAreNotDeep();
            CHECKS.due("twelve classes at most (rule 11): " + test.classes, test.classes <= 12, true);
        }
        CHECKS.close("LanguageTest");
    }

    private static void allowed(String what, boolean is) {
        CHECKS.due(what, is, true);
    }

    /** Rules 8 and 11: no recursion, and a call of the face opens eight calls at most, the library's among them. */
    private void callsAreNotDeep() {
        Map<String, Integer> depths = new HashMap<>();
        CHECKS.due("methods of the face", face.size(), 37);
        for (String method : face) {
            int depth = depthOf(method, new HashSet<>(), depths);
            allowed("calls " + depth + " deep under " + method, depth <= DEEPEST);
        }
    }

    private int depthOf(String method, Set<String> open, Map<String, Integer> known) {
        if (known.containsKey(method)) {
            return known.get(method);
        }
        allowed("no recursion: " + method, open.add(method));
        int deepest = 0;
        for (String called : calls.getOrDefault(method, Set.of())) {
            deepest = Math.max(deepest, open.contains(called) ? 0 : depthOf(called, open, known));
        }
        open.remove(method);
        known.put(method, deepest + 1);
        return deepest + 1;
    }

    private final class Scanner extends TreePathScanner<Void, Void> {
        private String method = "";
        private boolean mayMake = true;

        @Override
        public Void scan(Tree tree, Void nothing) {
            if (tree != null) {
                allowed("no " + tree.getKind(), !NOT_ALLOWED.contains(tree.getKind()));
            }
            return super.scan(tree, nothing);
        }

        @Override
        public Void visitClass(ClassTree tree, Void nothing) {
            classes++;
            long fields = tree.getMembers().stream().filter(m -> m instanceof VariableTree v && !v.getModifiers().getFlags().contains(Modifier.STATIC)).count();
            allowed("twenty fields at most (rule 11): " + tree.getSimpleName(), fields <= 20);
            for (Tree member : tree.getMembers()) {
                allowed("no initialiser block (rule 5)", member.getKind() != Tree.Kind.BLOCK);
                if (member instanceof VariableTree v && v.getModifiers().getFlags().contains(Modifier.STATIC)) {
                    allowed("static fields are final (rule 5): " + v.getName(), v.getModifiers().getFlags().contains(Modifier.FINAL));
                }
            }
            return super.visitClass(tree, nothing);
        }

        @Override
        public Void visitMethod(MethodTree tree, Void nothing) {
            Element element = trees.getElement(getCurrentPath());
            boolean constructor = element.getKind() == ElementKind.CONSTRUCTOR;
            boolean rows = element.getModifiers().contains(Modifier.STATIC) && tree.getName().contentEquals("newScripts");
            method = nameOf(element);
            mayMake = constructor || rows;
            if (!constructor && element.getModifiers().contains(Modifier.PUBLIC)) {
                face.add(method);
            }
            allowed("seven parameters at most (rule 11): " + method, tree.getParameters().size() <= 7);
            super.visitMethod(tree, nothing);
            method = "";
            mayMake = true;
            return null;
        }

        @Override
        public Void visitMethodInvocation(MethodInvocationTree tree, Void nothing) {
            Element called = trees.getElement(new TreePath(getCurrentPath(), tree.getMethodSelect()));
            String name = nameOf(called);
            boolean own = name.startsWith("SpeedDesk");
            allowed("the library's " + name + " (rule 4)", own || LIBRARY.contains(name) || called.getKind() == ElementKind.CONSTRUCTOR);
            if (called.getKind() == ElementKind.METHOD) {
                calls.computeIfAbsent(method, m -> new HashSet<>()).add(name);
            }
            return super.visitMethodInvocation(tree, nothing);
        }

        @Override
        public Void visitThrow(ThrowTree tree, Void nothing) {
            allowed("only cluster throws (rule 6): " + method, method.equals("SpeedDesk.cluster"));
            allowed("what is promised: " + tree.getExpression(), tree.getExpression().toString().equals("new NoSuchElementException()"));
            return null;
        }

        /** Rule 12: all rows are made by constructors, so that no call makes an object. */
        @Override
        public Void visitNewClass(NewClassTree tree, Void nothing) {
            allowed("no object is made in " + method, mayMake);
            return super.visitNewClass(tree, nothing);
        }

        @Override
        public Void visitNewArray(NewArrayTree tree, Void nothing) {
            allowed("no array is made in " + method, mayMake);
            return super.visitNewArray(tree, nothing);
        }

        @Override
        public Void visitBinary(BinaryTree tree, Void nothing) {
            boolean text = trees.getTypeMirror(getCurrentPath()).toString().equals("java.lang.String");
            allowed("texts are not joined by + (rule 10): " + tree, !text);
            return super.visitBinary(tree, nothing);
        }

        private String nameOf(Element element) {
            return element.getEnclosingElement() + "." + element.getSimpleName();
        }
    }
}
