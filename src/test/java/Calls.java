import com.sun.source.tree.ClassTree;
import com.sun.source.tree.CompilationUnitTree;
import com.sun.source.tree.MethodInvocationTree;
import com.sun.source.tree.MethodTree;
import com.sun.source.tree.NewClassTree;
import com.sun.source.tree.VariableTree;
import com.sun.source.util.JavacTask;
import com.sun.source.util.TreePathScanner;
import com.sun.source.util.Trees;
import java.io.File;
import java.io.IOException;
import java.util.HashSet;
import java.util.List;
import java.util.Map;
import java.util.Set;
import java.util.TreeMap;
import java.util.TreeSet;
import javax.lang.model.element.Element;
import javax.lang.model.element.Modifier;
import javax.tools.JavaCompiler;
import javax.tools.StandardJavaFileManager;
import javax.tools.ToolProvider;

/** Which methods of a file call which, read by the compiler itself, so that no name is taken for another. */
final class Calls extends TreePathScanner<Void, Void> {
    /** Of each method with a body, by class and name: the methods of the same file that it calls. */
    final Map<String, Set<String>> within = new TreeMap<>();
    /** Methods of the library that are called, by class and name. */
    final Set<String> library = new TreeSet<>();
    /** What is made with arguments while an object is made: these could hand out a part of it. */
    final Set<String> handedOut = new TreeSet<>();
    /** Fields beside the constants, by class. */
    final Map<String, Integer> fields = new TreeMap<>();

    private static final int WITHOUT_END = 1000000;

    private final Trees trees;
    private final Set<Element> written = new HashSet<>();
    private String method = "";
    private boolean making = false;

    private Calls(Trees trees) {
        this.trees = trees;
    }

    static Calls of(String path) throws IOException {
        JavaCompiler compiler = ToolProvider.getSystemJavaCompiler();
        try (StandardJavaFileManager files = compiler.getStandardFileManager(null, null, null)) {
            JavacTask task = (JavacTask) compiler.getTask(null, files, null, List.of("-proc:none"), null,
                files.getJavaFileObjects(new File(path)));
            Iterable<? extends CompilationUnitTree> units = task.parse();
            task.analyze();
            Calls calls = new Calls(Trees.instance(task));
            for (CompilationUnitTree unit : units) {
                calls.noteClasses(unit);
                calls.scan(unit, null);
            }
            return calls;
        }
    }

    /** How many methods stand open at once behind a call of this one, itself counted; no bound if one calls itself. */
    int depth(String name) {
        return depth(name, new HashSet<>());
    }

    private int depth(String name, Set<String> open) {
        if (!open.add(name)) {
            return WITHOUT_END;
        }
        int most = 0;
        for (String called : within.getOrDefault(name, Set.of())) {
            most = Math.max(most, depth(called, open));
        }
        open.remove(name);
        return 1 + most;
    }

    private void noteClasses(CompilationUnitTree unit) {
        new TreePathScanner<Void, Void>() {
            @Override
            public Void visitClass(ClassTree tree, Void none) {
                written.add(trees.getElement(getCurrentPath()));
                return super.visitClass(tree, none);
            }
        }.scan(unit, null);
    }

    private static String nameOf(Element called) {
        return called.getEnclosingElement().getSimpleName() + "." + called.getSimpleName();
    }

    @Override
    public Void visitClass(ClassTree tree, Void none) {
        String outer = method;
        for (var member : tree.getMembers()) {
            if (member instanceof VariableTree field
                && !field.getModifiers().getFlags().contains(Modifier.STATIC)) {
                fields.merge(tree.getSimpleName().toString(), 1, Integer::sum);
            }
        }
        method = tree.getSimpleName() + ".<init>";
        making = true;
        super.visitClass(tree, none);
        method = outer;
        return none;
    }

    @Override
    public Void visitMethod(MethodTree tree, Void none) {
        String outer = method;
        boolean wasMaking = making;
        method = nameOf(trees.getElement(getCurrentPath()));
        making = tree.getReturnType() == null;
        within.computeIfAbsent(method, name -> new TreeSet<>());
        super.visitMethod(tree, none);
        method = outer;
        making = wasMaking;
        return none;
    }

    @Override
    public Void visitMethodInvocation(MethodInvocationTree tree, Void none) {
        note(trees.getElement(getCurrentPath()));
        return super.visitMethodInvocation(tree, none);
    }

    @Override
    public Void visitNewClass(NewClassTree tree, Void none) {
        note(trees.getElement(getCurrentPath()));
        if (making && !tree.getArguments().isEmpty()) {
            handedOut.add(method + ": " + tree);
        }
        return super.visitNewClass(tree, none);
    }

    private void note(Element called) {
        if (written.contains(called.getEnclosingElement())) {
            within.computeIfAbsent(method, name -> new TreeSet<>()).add(nameOf(called));
        } else {
            library.add(nameOf(called));
        }
    }
}
