import com.sun.source.tree.ClassTree;
import com.sun.source.tree.CompilationUnitTree;
import com.sun.source.tree.IdentifierTree;
import com.sun.source.tree.MemberSelectTree;
import com.sun.source.tree.MethodInvocationTree;
import com.sun.source.tree.MethodTree;
import com.sun.source.tree.Tree;
import com.sun.source.tree.VariableTree;
import com.sun.source.util.JavacTask;
import com.sun.source.util.TreeScanner;
import java.nio.file.Path;
import java.util.List;
import java.util.Map;
import java.util.Set;
import java.util.TreeMap;
import java.util.TreeSet;
import javax.lang.model.element.Modifier;
import javax.tools.JavaCompiler;
import javax.tools.StandardJavaFileManager;
import javax.tools.ToolProvider;

/** The rules of LANGUAGE.md on the class's shape: what it calls of the library, how deep calls go, how many fields. */
public final class ShapeTest {
    private static final Set<String> LIBRARY = Set.of("Integer.bitCount", "Math.max", "Math.min");
    private static final int MOST_DEEP = 8, MOST_FIELDS = 20;
    private static final Checks C = new Checks();

    /** By methods, those that each one calls; the class's methods have names that no two of its classes share. */
    private static final Map<String, Set<String>> CALLS = new TreeMap<>();

    public static void main(String[] args) throws Exception {
        JavaCompiler compiler = ToolProvider.getSystemJavaCompiler();
        try (StandardJavaFileManager files = compiler.getStandardFileManager(null, null, null)) {
            JavacTask task = (JavacTask) compiler.getTask(null, files, null, List.of(), null,
                files.getJavaFileObjects(Path.of("src/main/java/PerilSeat.java")));
            for (CompilationUnitTree unit : task.parse()) {
                new Methods().scan(unit, null);
                new Callers().scan(unit, null);
            }
        }
        C.due("methods were found", CALLS.size() > 50 ? 1 : 0, 1);
        for (String method : CALLS.keySet()) {
            int deep = depth(method, new TreeSet<>());
            C.due("calls go " + deep + " deep from " + method, deep <= MOST_DEEP ? 1 : 0, 1);
            for (String called : CALLS.get(method)) {
                boolean round = !called.equals(method) && reaches(called, method, new TreeSet<>());
                C.due(method + " comes to call itself by way of " + called, round ? 1 : 0, 0);
            }
        }
        C.end();
    }

    /** How many calls stand open at once at most, a method that calls itself being counted once. */
    private static int depth(String method, Set<String> open) {
        if (!open.add(method)) {
            return 0;
        }
        int deepest = 0;
        for (String called : CALLS.get(method)) {
            deepest = Math.max(deepest, depth(called, open));
        }
        open.remove(method);
        return deepest + 1;
    }

    private static boolean reaches(String from, String to, Set<String> been) {
        if (from.equals(to)) {
            return true;
        }
        for (String called : been.add(from) ? CALLS.get(from) : Set.<String>of()) {
            if (reaches(called, to, been)) {
                return true;
            }
        }
        return false;
    }

    /** Gathers the methods, and looks at the fields. */
    private static final class Methods extends TreeScanner<Void, Void> {
        @Override
        public Void visitClass(ClassTree tree, Void none) {
            int fields = 0;
            for (Tree member : tree.getMembers()) {
                if (member instanceof VariableTree field) {
                    Set<Modifier> flags = field.getModifiers().getFlags();
                    boolean fixed = flags.contains(Modifier.STATIC);
                    fields += fixed ? 0 : 1;
                    C.due("static but not final: " + field.getName(),
                        fixed && !flags.contains(Modifier.FINAL) ? 1 : 0, 0);
                }
            }
            C.due("fields of " + tree.getSimpleName() + ": " + fields, fields <= MOST_FIELDS ? 1 : 0, 1);
            return super.visitClass(tree, none);
        }

        @Override
        public Void visitMethod(MethodTree tree, Void none) {
            String name = tree.getName().toString();
            if (!name.equals("<init>")) {
                C.due("two methods are named " + name, CALLS.put(name, new TreeSet<>()) == null ? 0 : 1, 0);
            }
            return super.visitMethod(tree, none);
        }
    }

    /** Gathers who calls whom; what is not the class's own must be of the library that is let in. */
    private static final class Callers extends TreeScanner<Void, Void> {
        private String caller = "<init>";

        @Override
        public Void visitMethod(MethodTree tree, Void none) {
            caller = tree.getName().toString();
            return super.visitMethod(tree, none);
        }

        @Override
        public Void visitMethodInvocation(MethodInvocationTree tree, Void none) {
            Tree select = tree.getMethodSelect();
            String name = select instanceof MemberSelectTree member
                ? member.getIdentifier().toString()
                : ((IdentifierTree) select).getName().toString();
            if (!LIBRARY.contains(select.toString())) {
                C.due(caller + " calls " + select + ", which is the class's own", CALLS.containsKey(name) ? 1 : 0, 1);
                C.due("a constructor calls " + select, caller.equals("<init>") ? 1 : 0, 0);
                if (CALLS.containsKey(name) && CALLS.containsKey(caller)) {
                    CALLS.get(caller).add(name);
                }
            }
            return super.visitMethodInvocation(tree, none);
        }
    }
}
