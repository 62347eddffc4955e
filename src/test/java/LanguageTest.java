import com.sun.source.tree.ClassTree;
import com.sun.source.tree.CompilationUnitTree;
import com.sun.source.tree.ExpressionTree;
import com.sun.source.tree.IdentifierTree;
import com.sun.source.tree.MemberSelectTree;
import com.sun.source.tree.MethodInvocationTree;
import com.sun.source.tree.MethodTree;
import com.sun.source.tree.NewClassTree;
import com.sun.source.tree.Tree;
import com.sun.source.tree.VariableTree;
import com.sun.source.util.JavacTask;
import com.sun.source.util.SourcePositions;
import com.sun.source.util.TreeScanner;
import com.sun.source.util.Trees;
import java.io.File;
import java.io.IOException;
import java.util.HashMap;
import java.util.HashSet;
import java.util.Map;
import java.util.Set;
import java.util.TreeSet;
import javax.lang.model.element.Modifier;
import javax.tools.JavaCompiler;
import javax.tools.StandardJavaFileManager;
import javax.tools.ToolProvider;

/** The rules of LANGUAGE.md that count something, and those on names, looked up in the source's tree. */
public final class LanguageTest {
    private static final String SOURCE = "src/main/java/RingForms.java";
    private static final int MOST_PARAMETERS = 7;
    private static final int MOST_LINES = 60;
    private static final int MOST_DEEP = 8;
    private static final int MOST_CLASSES = 12;
    private static final int MOST_FIELDS = 20;
    /** Library functions that call no other; one that is not here is taken to call another. */
    private static final Set<String> LIBRARY_LEAVES = Set.of("Math.abs", "Math.max", "Math.min");

    private final Due due = new Due();
    private final CompilationUnitTree unit;
    private final SourcePositions positions;
    /** What the body of each method and constructor calls. */
    private final Map<String, Set<String>> calls = new HashMap<>();
    private final Set<String> face = new TreeSet<>();
    private final Set<String> others = new TreeSet<>();
    private int classes = 0;

    private LanguageTest(CompilationUnitTree unit, SourcePositions positions) {
        this.unit = unit;
        this.positions = positions;
    }

    public static void main(String[] args) throws IOException {
        JavaCompiler compiler = ToolProvider.getSystemJavaCompiler();
        try (StandardJavaFileManager files = compiler.getStandardFileManager(null, null, null)) {
            JavacTask task = (JavacTask) compiler.getTask(null, files, null, null, null,
                    files.getJavaFileObjects(new File(SOURCE)));
            CompilationUnitTree unit = task.parse().iterator().next();
            new LanguageTest(unit, Trees.instance(task).getSourcePositions()).run();
        }
    }

    private void run() {
        due.is("classes of the file", unit.getTypeDecls().size(), 1);
        lookAtClasses();
        due.holds(classes + " classes are not too many", classes <= MOST_CLASSES);
        for (String name : face) {
            due.holds("no other method bears the name " + name, !others.contains(name));
        }
        for (String name : calls.keySet()) {
            int deep = deep(name, new HashSet<>());
            due.holds(name + " goes " + deep + " calls deep", deep <= MOST_DEEP);
        }
        due.end();
    }

    private void lookAtClasses() {
        new TreeScanner<Void, Void>() {
            @Override
            public Void visitClass(ClassTree tree, Void none) {
                classes++;
                lookAtMembers(tree);
                return super.visitClass(tree, none);
            }
        }.scan(unit, null);
    }

    private void lookAtMembers(ClassTree tree) {
        String owner = tree.getSimpleName().toString();
        int fields = 0;
        for (Tree member : tree.getMembers()) {
            if (member instanceof MethodTree method) {
                lookAtMethod(owner, method);
            } else if (member instanceof VariableTree field) {
                boolean isStatic = field.getModifiers().getFlags().contains(Modifier.STATIC);
                fields += isStatic ? 0 : 1;
                due.holds("static " + field.getName() + " is final",
                        !isStatic || field.getModifiers().getFlags().contains(Modifier.FINAL));
            } else {
                due.holds(owner + " has classes, fields and methods alone", member instanceof ClassTree);
            }
        }
        due.holds(owner + "'s " + fields + " fields are not too many", fields <= MOST_FIELDS);
        // A class without a constructor of its own has one that calls nothing.
        calls.putIfAbsent("new " + owner, Set.of());
    }

    private void lookAtMethod(String owner, MethodTree method) {
        boolean isConstructor = method.getReturnType() == null;
        String name = isConstructor ? "new " + owner : method.getName().toString();
        if (method.getModifiers().getFlags().contains(Modifier.PUBLIC)) {
            face.add(name);
        } else {
            others.add(name);
        }
        // The document's face gives line() eight.
        int most = name.equals("line") ? MOST_PARAMETERS + 1 : MOST_PARAMETERS;
        due.holds(name + "'s parameters are not too many", method.getParameters().size() <= most);
        long first = unit.getLineMap().getLineNumber(positions.getStartPosition(unit, method));
        long last = unit.getLineMap().getLineNumber(positions.getEndPosition(unit, method));
        due.holds(name + " is short", last - first < MOST_LINES);
        // Calls are followed by the method's name alone, so no two may share one.
        due.holds("there is one " + name, calls.put(name, callsOf(method)) == null);
    }

    private static Set<String> callsOf(MethodTree method) {
        Set<String> called = new TreeSet<>();
        new TreeScanner<Void, Void>() {
            @Override
            public Void visitMethodInvocation(MethodInvocationTree tree, Void none) {
                called.add(nameOf(tree.getMethodSelect()));
                return super.visitMethodInvocation(tree, none);
            }

            @Override
            public Void visitNewClass(NewClassTree tree, Void none) {
                called.add("new " + tree.getIdentifier());
                return super.visitNewClass(tree, none);
            }
        }.scan(method, null);
        return called;
    }

    private static String nameOf(ExpressionTree select) {
        if (select instanceof MemberSelectTree member) {
            return isLibrary(member.toString()) ? member.toString() : member.getIdentifier().toString();
        }
        return select instanceof IdentifierTree name ? name.getName().toString() : select.toString();
    }

    private static boolean isLibrary(String name) {
        return name.matches("(Math|Integer|Long|Arrays|System|List)\\.\\w+");
    }

    private int deep(String name, Set<String> open) {
        if (isLibrary(name)) {
            return LIBRARY_LEAVES.contains(name) ? 1 : 2;
        }
        due.holds(name + " is in the file", calls.containsKey(name));
        due.holds(name + " does not come to call itself", !open.contains(name));
        if (!calls.containsKey(name) || !open.add(name)) {
            return 1;
        }
        int deepest = 0;
        for (String called : calls.get(name)) {
            deepest = Math.max(deepest, deep(called, open));
        }
        open.remove(name);
        return deepest + 1;
    }
}
