import com.sun.source.tree.ClassTree;
import com.sun.source.tree.CompilationUnitTree;
import com.sun.source.tree.MethodInvocationTree;
import com.sun.source.tree.MethodTree;
import com.sun.source.tree.NewClassTree;
import com.sun.source.tree.Tree;
import com.sun.source.tree.VariableTree;
import com.sun.source.util.JavacTask;
import com.sun.source.util.TreePathScanner;
import com.sun.source.util.Trees;
import java.io.File;
import java.util.ArrayList;
import java.util.HashMap;
import java.util.HashSet;
import java.util.LinkedHashMap;
import java.util.List;
import java.util.Map;
import java.util.Set;
import java.util.TreeSet;
import javax.lang.model.element.Element;
import javax.lang.model.element.ElementKind;
import javax.lang.model.element.Modifier;
import javax.tools.JavaCompiler;
import javax.tools.StandardJavaFileManager;
import javax.tools.ToolProvider;

/** Rules 1, 8 and 11 of LANGUAGE.md: which method calls which, how deep, and what classes hold. Run from the project's folder. */
public final class CallsTest {
    private static final String FILE = "src/main/java/WindowRing.java";
    private static final int MOST_CALLS = 8;
    private static final int MOST_FIELDS = 20;
    private static final Set<String> MAY_CALL_ITSELF = Set.of("readFormula", "readSum", "readTerm", "readUnit", "readNamed",
        "readArguments");

    private CallsTest() {
    }

    public static void main(String[] args) throws Exception {
        Scanner scanner = scan();
        for (Element method : scanner.calls.keySet()) {
            List<String> longest = new ArrayList<>();
            int deep = scanner.deep(method, longest);
            Rings.due("calls deep from " + method + ": " + longest, true, deep <= MOST_CALLS);
            boolean recursive = scanner.reaches(method, method, new HashSet<>());
            Rings.due("calls itself: " + method, recursive, recursive && MAY_CALL_ITSELF.contains(name(method)));
        }
        for (Map.Entry<String, Integer> fields : scanner.fields.entrySet()) {
            Rings.due("fields of " + fields.getKey(), true, fields.getValue() <= MOST_FIELDS);
        }
        Set<String> both = new TreeSet<>(scanner.publicNames);
        both.retainAll(scanner.privateNames);
        Rings.due("names of both private and public methods " + both, true, both.isEmpty());
        Rings.finish("CallsTest");
    }

    private static String name(Element element) {
        return element.getSimpleName().toString();
    }

    private static Scanner scan() throws Exception {
        JavaCompiler compiler = ToolProvider.getSystemJavaCompiler();
        try (StandardJavaFileManager files = compiler.getStandardFileManager(null, null, null)) {
            JavacTask task = (JavacTask) compiler.getTask(null, files, null, List.of("-proc:none"), null,
                files.getJavaFileObjects(new File(FILE)));
            Iterable<? extends CompilationUnitTree> units = task.parse();
            task.analyze();
            Scanner scanner = new Scanner(Trees.instance(task));
            for (CompilationUnitTree unit : units) {
                scanner.scan(unit, null);
            }
            return scanner;
        }
    }

    private static final class Scanner extends TreePathScanner<Void, Void> {
        final Map<Element, Set<Element>> calls = new LinkedHashMap<>();
        final Map<String, Integer> fields = new HashMap<>();
        final Set<String> publicNames = new HashSet<>();
        final Set<String> privateNames = new HashSet<>();
        private final Trees trees;
        private Element method;

        Scanner(Trees trees) {
            this.trees = trees;
        }

        @Override
        public Void visitClass(ClassTree tree, Void nothing) {
            int count = 0;
            for (Tree member : tree.getMembers()) {
                if (member instanceof VariableTree field && !field.getModifiers().getFlags().contains(Modifier.STATIC)) {
                    count++;
                }
            }
            fields.put(tree.getSimpleName().toString(), count);
            return super.visitClass(tree, nothing);
        }

        @Override
        public Void visitMethod(MethodTree tree, Void nothing) {
            Element before = method;
            method = trees.getElement(getCurrentPath());
            calls.put(method, new HashSet<>());
            if (method.getKind() == ElementKind.METHOD) {
                (method.getModifiers().contains(Modifier.PUBLIC) ? publicNames : privateNames).add(name(method));
            }
            super.visitMethod(tree, nothing);
            method = before;
            return null;
        }

        @Override
        public Void visitMethodInvocation(MethodInvocationTree tree, Void nothing) {
            note(trees.getElement(getCurrentPath()));
            return super.visitMethodInvocation(tree, nothing);
        }

        @Override
        public Void visitNewClass(NewClassTree tree, Void nothing) {
            note(trees.getElement(getCurrentPath()));
            return super.visitNewClass(tree, nothing);
        }

        private void note(Element called) {
            if (method != null && called != null) {
                calls.get(method).add(called);
            }
        }

        boolean reaches(Element from, Element to, Set<Element> seen) {
            for (Element called : calls.getOrDefault(from, Set.of())) {
                if (called.equals(to) || seen.add(called) && reaches(called, to, seen)) {
                    return true;
                }
            }
            return false;
        }

        /** How many calls deep, methods that call one another counted once; the file's own methods alone. */
        int deep(Element from, List<String> longest) {
            Set<Element> circle = new HashSet<>(Set.of(from));
            for (Element other : calls.keySet()) {
                if (reaches(from, other, new HashSet<>()) && reaches(other, from, new HashSet<>())) {
                    circle.add(other);
                }
            }
            int most = 0;
            List<String> further = new ArrayList<>();
            for (Element one : circle) {
                for (Element called : calls.get(one)) {
                    if (calls.containsKey(called) && !circle.contains(called)) {
                        List<String> names = new ArrayList<>();
                        int deep = deep(called, names);
                        if (deep > most) {
                            most = deep;
                            further = names;
                        }
                    }
                }
            }
            longest.add(name(from));
            longest.addAll(further);
            return most + 1;
        }
    }
}
