import com.sun.source.tree.ClassTree;
import com.sun.source.tree.CompilationUnitTree;
import com.sun.source.tree.MethodInvocationTree;
import com.sun.source.tree.MethodTree;
import com.sun.source.tree.NewClassTree;
import com.sun.source.util.JavacTask;
import com.sun.source.util.TreePathScanner;
import com.sun.source.util.Trees;
import java.io.File;
import java.io.IOException;
import java.util.ArrayList;
import java.util.HashMap;
import java.util.HashSet;
import java.util.List;
import java.util.Map;
import java.util.Set;
import java.util.TreeSet;
import javax.lang.model.element.Element;
import javax.lang.model.element.Modifier;
import javax.tools.JavaCompiler;
import javax.tools.StandardJavaFileManager;
import javax.tools.ToolProvider;

/** How deep calls go, by the compiler's own reading of the source (rules 8, 11); run from the project's root. */
public final class DepthTest {
    private static final int DEEPEST = 8;
    private static final int MOST_FIELDS = 20;
    private static final int MOST_CLASSES = 12;
    /** Only the reading of a law calls itself: by its ( and not, which the document keeps to eight. */
    private static final Set<String> CALL_THEMSELVES = Set.of("LawReader.readAny", "LawReader.readCondition",
        "LawReader.readOpened");

    private final Map<String, Set<String>> calls = new HashMap<>();
    private final Set<String> face = new TreeSet<>();
    private final Map<String, Integer> fields = new HashMap<>();

    public static void main(String[] args) throws IOException {
        DepthTest test = new DepthTest();
        test.read();
        test.chains();
        test.recursion();
        test.sizes();
        Due.finish();
    }

    private void read() throws IOException {
        JavaCompiler compiler = ToolProvider.getSystemJavaCompiler();
        StandardJavaFileManager files = compiler.getStandardFileManager(null, null, null);
        JavacTask task = (JavacTask) compiler.getTask(null, files, null, List.of("-proc:none"), null,
            files.getJavaFileObjects(new File("src/main/java/PaidWhereMade.java")));
        List<CompilationUnitTree> units = new ArrayList<>();
        task.parse().forEach(units::add);
        task.analyze();
        Trees trees = Trees.instance(task);
        units.forEach(unit -> new Reader(trees).scan(unit, null));
        files.close();
    }

    private final class Reader extends TreePathScanner<Void, Void> {
        private final Trees trees;
        private String inside = "";

        Reader(Trees trees) {
            this.trees = trees;
        }

        @Override
        public Void visitClass(ClassTree tree, Void none) {
            Element type = trees.getElement(getCurrentPath());
            int count = 0;
            for (Element e : type.getEnclosedElements()) {
                count += e.getKind().isField() && !e.getModifiers().contains(Modifier.STATIC) ? 1 : 0;
            }
            fields.put(type.getSimpleName().toString(), count);
            return super.visitClass(tree, none);
        }

        @Override
        public Void visitMethod(MethodTree tree, Void none) {
            Element method = trees.getElement(getCurrentPath());
            String before = inside;
            inside = name(method);
            calls.putIfAbsent(inside, new TreeSet<>());
            if (method.getModifiers().contains(Modifier.PUBLIC)) {
                face.add(inside);
            }
            super.visitMethod(tree, none);
            inside = before;
            return null;
        }

        @Override
        public Void visitMethodInvocation(MethodInvocationTree tree, Void none) {
            note(trees.getElement(getCurrentPath()));
            return super.visitMethodInvocation(tree, none);
        }

        @Override
        public Void visitNewClass(NewClassTree tree, Void none) {
            note(trees.getElement(getCurrentPath()));
            return super.visitNewClass(tree, none);
        }

        private void note(Element called) {
            if (calls.containsKey(inside)) {
                calls.get(inside).add(name(called));
            }
        }
    }

    private static String name(Element method) {
        return method.getEnclosingElement().getSimpleName() + "." + method.getSimpleName();
    }

    /** Calls of the library count as one more; a method that stands open already is recursion, and ends a chain. */
    private void chains() {
        Due.is("methods of the face with the constructor", face.size(), 26);
        for (String method : face) {
            List<String> deepest = new ArrayList<>();
            follow(method, new ArrayList<>(), deepest);
            Due.is("deepest chain " + deepest, deepest.size() <= DEEPEST, true);
        }
    }

    private void follow(String method, List<String> open, List<String> deepest) {
        if (open.contains(method)) {
            return;
        }
        open.add(method);
        if (open.size() > deepest.size()) {
            deepest.clear();
            deepest.addAll(open);
        }
        for (String called : calls.getOrDefault(method, Set.of())) {
            follow(called, open, deepest);
        }
        open.remove(open.size() - 1);
    }

    private void recursion() {
        Set<String> found = new HashSet<>();
        for (String method : calls.keySet()) {
            if (reaches(method, method, new HashSet<>())) {
                found.add(method);
            }
        }
        Due.is("call themselves: " + found, found.equals(CALL_THEMSELVES), true);
    }

    private boolean reaches(String from, String to, Set<String> seen) {
        for (String called : calls.getOrDefault(from, Set.of())) {
            if (called.equals(to) || seen.add(called) && reaches(called, to, seen)) {
                return true;
            }
        }
        return false;
    }

    private void sizes() {
        Due.is("classes " + fields.keySet(), fields.size() <= MOST_CLASSES, true);
        for (Map.Entry<String, Integer> e : fields.entrySet()) {
            Due.is("fields of " + e.getKey(), e.getValue() <= MOST_FIELDS, true);
        }
    }
}
