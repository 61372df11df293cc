import com.sun.source.tree.ClassTree;
import com.sun.source.tree.CompilationUnitTree;
import com.sun.source.tree.MethodInvocationTree;
import com.sun.source.tree.MethodTree;
import com.sun.source.tree.NewClassTree;
import com.sun.source.tree.Tree;
import com.sun.source.tree.VariableTree;
import com.sun.source.util.JavacTask;
import com.sun.source.util.TreePathScanner;
import com.sun.source.util.Trees;
import java.io.IOException;
import java.nio.file.Path;
import java.util.ArrayList;
import java.util.EnumSet;
import java.util.List;
import java.util.Map;
import java.util.Set;
import java.util.TreeMap;
import java.util.TreeSet;
import javax.lang.model.element.Element;
import javax.lang.model.element.Modifier;
import javax.tools.JavaCompiler;
import javax.tools.StandardJavaFileManager;
import javax.tools.ToolProvider;

/** What the compiler knows of the class, held against ../shared/LANGUAGE.md: who calls whom, and what of the library. */
final class CallsTest extends TreePathScanner<Void, Void> {
    /** Rule 4: what may be used of the library: a class, and its methods between blanks. */
    private static final String[][] LIBRARY = {
        {"java.lang.Object", " <init> clone "}, {"Array", " clone "}, {"java.lang.Record", " <init> "},
        {"java.lang.Enum", " <init> ordinal name compareTo "}, {"java.lang.Comparable", " compareTo "},
        {"java.lang.String", " <init> length charAt isEmpty equals indexOf substring toCharArray "},
        {"java.lang.StringBuilder", " <init> append charAt setCharAt setLength deleteCharAt reverse length toString "},
        {"java.util.ArrayList", " <init> add get set remove size isEmpty clear "},
        {"java.util.List", " of add get set remove size isEmpty clear "},
        {"java.util.Iterator", " hasNext next "}, {"java.lang.Iterable", " iterator "},
        {"java.lang.System", " arraycopy "}, {"java.util.Arrays", " copyOf copyOfRange fill "},
    };
    /** Of these the functions over int and long may be used, but for those that throw. */
    private static final Set<String> FUNCTIONS = Set.of("java.lang.Math", "java.lang.Integer", "java.lang.Long");
    private static final int DEEPEST = 8, MOST_PARAMETERS = 7, MOST_FIELDS = 24, MOST_CLASSES = 15;

    private static final Set<Tree.Kind> NONE_OF = EnumSet.of(Tree.Kind.LAMBDA_EXPRESSION, Tree.Kind.MEMBER_REFERENCE,
            Tree.Kind.SYNCHRONIZED, Tree.Kind.ASSERT);

    private final Check check = new Check();
    private final Trees trees;
    private final Map<String, Set<String>> calls = new TreeMap<>();
    private final Set<String> faceMethods = new TreeSet<>();
    private String method = "";
    private int classes = 0;

    private CallsTest(Trees trees) {
        this.trees = trees;
    }

    public static void main(String[] args) throws IOException {
        JavaCompiler compiler = ToolProvider.getSystemJavaCompiler();
        try (StandardJavaFileManager files = compiler.getStandardFileManager(null, null, null)) {
            JavacTask task = (JavacTask) compiler.getTask(null, files, null, List.of("-proc:none"), null,
                    files.getJavaFileObjects(Path.of("src/main/java/TokenNet.java")));
            List<CompilationUnitTree> units = new ArrayList<>();
            task.parse().forEach(units::add);
            task.analyze();
            CallsTest test = new CallsTest(Trees.instance(task));
            test.check.about("the language");
            units.forEach(unit -> test.scan(unit, null));
            test.look();
            test.check.end();
        }
    }

    /** Eight calls, one within the other, are the most; it is told how many there are with that of the face. */
    private void look() {
        check.due("some twelve classes at most", Math.max(classes, MOST_CLASSES), MOST_CLASSES);
        List<String> deepest = List.of();
        for (String from : faceMethods) {
            List<String> chain = longest(from, List.of());
            deepest = levels(chain) > levels(deepest) ? chain : deepest;
        }
        if (levels(deepest) - 1 > DEEPEST) {
            check.fail("calls more than eight deep: " + deepest);
        }
        System.out.println("calls go " + levels(deepest) + " deep, the face counted: " + deepest);
    }

    private boolean reaches(String from, String to, Set<String> seen) {
        for (String called : calls.getOrDefault(from, Set.of())) {
            if (called.equals(to) || seen.add(called) && reaches(called, to, seen)) {
                return true;
            }
        }
        return false;
    }

    /** Methods that call one another are one level: their depth has a guard of its own. */
    private int levels(List<String> chain) {
        int levels = chain.size();
        for (int i = 1; i < chain.size(); i++) {
            if (reaches(chain.get(i), chain.get(i - 1), new TreeSet<>())) {
                levels--;
            }
        }
        return levels;
    }

    /** The chain of calls with the most levels in which no method stands twice. */
    private List<String> longest(String from, List<String> ahead) {
        List<String> here = new ArrayList<>(ahead);
        here.add(from);
        List<String> best = here;
        for (String called : calls.getOrDefault(from, Set.of())) {
            List<String> chain = here.contains(called) ? here : longest(called, here);
            best = levels(chain) > levels(best) ? chain : best;
        }
        return best;
    }

    @Override
    public Void scan(Tree tree, Void nothing) {
        if (tree != null && NONE_OF.contains(tree.getKind())) {
            check.fail(method + " has " + tree.getKind());
        }
        return super.scan(tree, nothing);
    }

    @Override
    public Void visitClass(ClassTree tree, Void nothing) {
        classes++;
        int fields = 0;
        for (Tree member : tree.getMembers()) {
            if (member instanceof VariableTree field) {
                Set<Modifier> modifiers = field.getModifiers().getFlags();
                boolean isConstant = modifiers.contains(Modifier.STATIC);
                fields += isConstant ? 0 : 1;
                if (isConstant && !modifiers.contains(Modifier.FINAL)) {
                    check.fail("static and not final: " + field);
                }
            }
        }
        check.due("some twenty fields of " + tree.getSimpleName(), Math.max(fields, MOST_FIELDS), MOST_FIELDS);
        return super.visitClass(tree, nothing);
    }

    @Override
    public Void visitMethod(MethodTree tree, Void nothing) {
        Element element = trees.getElement(getCurrentPath());
        method = nameOf(element);
        calls.putIfAbsent(method, new TreeSet<>());
        if (element.getModifiers().contains(Modifier.PUBLIC)) {
            faceMethods.add(method);
        }
        check.due("parameters of " + method, Math.max(tree.getParameters().size(), MOST_PARAMETERS), MOST_PARAMETERS);
        return super.visitMethod(tree, nothing);
    }

    @Override
    public Void visitMethodInvocation(MethodInvocationTree tree, Void nothing) {
        addCall(trees.getElement(getCurrentPath()));
        return super.visitMethodInvocation(tree, nothing);
    }

    @Override
    public Void visitNewClass(NewClassTree tree, Void nothing) {
        addCall(trees.getElement(getCurrentPath()));
        return super.visitNewClass(tree, nothing);
    }

    private void addCall(Element called) {
        String owner = called.getEnclosingElement().toString();
        String name = called.getSimpleName().toString();
        if (owner.startsWith("TokenNet")) {
            calls.computeIfAbsent(method, key -> new TreeSet<>()).add(nameOf(called));
        } else if (!isAllowed(owner, name)) {
            check.fail(method + " uses " + owner + "." + name);
        }
    }

    private static boolean isAllowed(String owner, String name) {
        if (FUNCTIONS.contains(owner)) {
            return !name.endsWith("Exact");
        }
        for (String[] row : LIBRARY) {
            if (owner.replaceAll("<.*", "").equals(row[0])) {
                return row[1].contains(" " + name + " ");
            }
        }
        return owner.endsWith("Exception") && name.equals("<init>");
    }

    private static String nameOf(Element method) {
        return method.getEnclosingElement().getSimpleName() + "." + method.getSimpleName();
    }
}
