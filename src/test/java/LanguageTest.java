import com.sun.source.tree.AnnotationTree;
import com.sun.source.tree.BlockTree;
import com.sun.source.tree.ClassTree;
import com.sun.source.tree.CompilationUnitTree;
import com.sun.source.tree.ExpressionTree;
import com.sun.source.tree.IdentifierTree;
import com.sun.source.tree.IfTree;
import com.sun.source.tree.MethodInvocationTree;
import com.sun.source.tree.MethodTree;
import com.sun.source.tree.NewClassTree;
import com.sun.source.tree.StatementTree;
import com.sun.source.tree.ThrowTree;
import com.sun.source.tree.Tree;
import com.sun.source.tree.VariableTree;
import com.sun.source.util.JavacTask;
import com.sun.source.util.TreePathScanner;
import com.sun.source.util.TreeScanner;
import com.sun.source.util.Trees;
import java.io.File;
import java.io.IOException;
import java.util.ArrayList;
import java.util.EnumSet;
import java.util.LinkedHashMap;
import java.util.List;
import java.util.Map;
import java.util.Set;
import java.util.TreeSet;
import javax.lang.model.element.Element;
import javax.lang.model.element.Modifier;
import javax.tools.JavaCompiler;
import javax.tools.StandardJavaFileManager;
import javax.tools.ToolProvider;

/** What of LANGUAGE.md can be seen in the source: javac reads the class, and its rules are looked for in the tree. */
public final class LanguageTest {
    private static final File SOURCE = new File("src/main/java/IsomerList.java");
    private static final Set<Tree.Kind> NEVER = EnumSet.of(
            Tree.Kind.LAMBDA_EXPRESSION, Tree.Kind.MEMBER_REFERENCE, Tree.Kind.TRY, Tree.Kind.SYNCHRONIZED,
            Tree.Kind.ASSERT, Tree.Kind.INSTANCE_OF, Tree.Kind.TYPE_CAST, Tree.Kind.DOUBLE_LITERAL,
            Tree.Kind.FLOAT_LITERAL, Tree.Kind.ENHANCED_FOR_LOOP, Tree.Kind.DO_WHILE_LOOP, Tree.Kind.SWITCH_EXPRESSION);
    private static final Set<String> LIBRARY = Set.of(
            "java.lang.Math.min(int,int)", "java.lang.Math.max(int,int)", "java.util.Arrays.fill(int[],int)",
            "java.lang.System.arraycopy(java.lang.Object,int,java.lang.Object,int,int)");
    private static final Set<String> TYPES = Set.of(
            "int", "char", "boolean", "int[]", "char[]", "boolean[]", "Line", "FormulaReader", "TextReader",
            "TextWriter", "Numbering", "Lister", "Molecule", "Catalogue");
    private static final Set<String> THROWN = Set.of("IllegalStateException", "IndexOutOfBoundsException");

    private final Trees trees;
    private final CompilationUnitTree unit;
    private final Map<String, MethodTree> methods = new LinkedHashMap<>();
    private final Map<String, Set<String>> calls = new LinkedHashMap<>();

    private LanguageTest(Trees trees, CompilationUnitTree unit) {
        this.trees = trees;
        this.unit = unit;
        gatherCalls();
    }

    public static void main(String[] args) throws IOException {
        JavaCompiler compiler = ToolProvider.getSystemJavaCompiler();
        try (StandardJavaFileManager files = compiler.getStandardFileManager(null, null, null)) {
            JavacTask task = (JavacTask) compiler.getTask(
                    null, files, null, List.of("-proc:none"), null, files.getJavaFileObjects(SOURCE));
            CompilationUnitTree unit = task.parse().iterator().next();
            task.analyze();
            LanguageTest test = new LanguageTest(Trees.instance(task), unit);
            test.checkKindsOfTrees();
            test.checkTypes();
            test.checkLibrary();
            test.checkStaticState();
            test.checkExceptions();
            test.checkRecursion();
            test.checkSizes();
            test.checkConstructors();
            test.checkObjectsMade();
        }
        Check.end();
    }

    // Some of these are fine by the rules, under conditions: without them there is no condition to look at.
    private void checkKindsOfTrees() {
        Check.sentence("rules 2, 6 and 10", "what the class does without");
        TreeSet<String> found = new TreeSet<>();
        new TreeScanner<Void, Void>() {
            @Override
            public Void scan(Tree tree, Void none) {
                if (tree != null && NEVER.contains(tree.getKind())) {
                    found.add(tree.toString());
                }
                return super.scan(tree, none);
            }

            @Override
            public Void visitAnnotation(AnnotationTree tree, Void none) {
                found.add(tree.toString());
                return null;
            }
        }.scan(unit, null);
        Check.due("such trees", found.toString(), "[(char)('0' + digit)]");
        Check.due("package", String.valueOf(unit.getPackage()), "null");
    }

    private void checkTypes() {
        Check.sentence("rule 3", "Types");
        for (VariableTree variable : found(unit, VariableTree.class)) {
            String type = variable.getType().toString();
            Check.due("type " + type + " of " + variable.getName(), TYPES.contains(type) ? 1 : 0, 1);
        }
    }

    private void checkLibrary() {
        Check.sentence("rule 4", "The library: only what stands here");
        Check.due("imports", unit.getImports().toString().trim(), "import java.util.Arrays;");
        for (Set<String> called : calls.values()) {
            for (String name : called) {
                boolean fine = methods.containsKey(name) || LIBRARY.contains(name);
                Check.due("call of " + name, fine ? 1 : 0, 1);
            }
        }
    }

    private void checkStaticState() {
        Check.sentence("rule 5", "Static fields are final .. no static initialiser block");
        for (ClassTree type : found(unit, ClassTree.class)) {
            for (Tree member : type.getMembers()) {
                if (member instanceof VariableTree field && isStatic(field.getModifiers().getFlags())) {
                    boolean isFinal = field.getModifiers().getFlags().contains(Modifier.FINAL);
                    Check.due(field.getName() + " is final", isFinal ? 1 : 0, 1);
                    Check.due(field.getName() + " is written out", found(field, NewClassTree.class).size(), 0);
                }
                Check.due("a block in a class", member instanceof BlockTree ? 1 : 0, 0);
            }
        }
    }

    private void checkExceptions() {
        Check.sentence("rule 6", "throw new E() or throw new E(\"a written text\")");
        for (MethodTree method : methods.values()) {
            for (ThrowTree thrown : found(method, ThrowTree.class)) {
                boolean fine = thrown.getExpression() instanceof NewClassTree made
                        && THROWN.contains(made.getIdentifier().toString()) && made.getArguments().isEmpty();
                Check.due(thrown + " in " + method.getName(), fine && !isConstructor(method) ? 1 : 0, 1);
            }
        }
    }

    // Each round of calls must go through a method that looks at its depth before all else.
    private void checkRecursion() {
        Check.sentence("rule 8", "the depth is carried as an argument .. the code refuses what would go deeper");
        for (String name : methods.keySet()) {
            if (!refusesByArgument(methods.get(name))) {
                Set<String> unguarded = new TreeSet<>();
                reachUnguarded(name, unguarded);
                Check.due(name + " comes to itself without a look at the depth", unguarded.contains(name) ? 1 : 0, 0);
            }
        }
    }

    private void reachUnguarded(String from, Set<String> reached) {
        for (String next : calls.get(from)) {
            MethodTree method = methods.get(next);
            if (method != null && !refusesByArgument(method) && reached.add(next)) {
                reachUnguarded(next, reached);
            }
        }
    }

    private static boolean refusesByArgument(MethodTree method) {
        if (method.getBody() == null || method.getBody().getStatements().isEmpty()) {
            return false;
        }
        StatementTree first = method.getBody().getStatements().get(0);
        if (!(first instanceof IfTree test) || test.getElseStatement() != null) {
            return false;
        }
        boolean looks = false;
        for (IdentifierTree used : found(test.getCondition(), IdentifierTree.class)) {
            for (VariableTree parameter : method.getParameters()) {
                looks |= parameter.getType().toString().equals("int") && used.getName().equals(parameter.getName());
            }
        }
        List<? extends StatementTree> then = ((BlockTree) test.getThenStatement()).getStatements();
        return looks && then.get(then.size() - 1).getKind() == Tree.Kind.RETURN;
    }

    private void checkSizes() {
        Check.sentence("rule 11", "at most seven parameters .. some sixty lines .. eight deep .. twelve classes .. twenty fields");
        for (String name : methods.keySet()) {
            MethodTree method = methods.get(name);
            Check.due("few parameters of " + name, method.getParameters().size() <= 7 ? 1 : 0, 1);
            Check.due("few lines of " + name, method.toString().lines().count() <= 60 ? 1 : 0, 1);
            Check.due("depth of calls below " + name, depth(name, new TreeSet<>()) <= 8 ? 1 : 0, 1);
        }
        List<ClassTree> types = found(unit, ClassTree.class);
        Check.due("few classes", types.size() <= 12 ? 1 : 0, 1);
        for (ClassTree type : types) {
            long fields = type.getMembers().stream()
                    .filter(m -> m instanceof VariableTree v && !isStatic(v.getModifiers().getFlags())).count();
            Check.due("few fields of " + type.getSimpleName(), fields <= 20 ? 1 : 0, 1);
        }
    }

    // Methods that come to one another count as one: these calls are recursion.
    private int depth(String name, Set<String> open) {
        int most = 0;
        open.add(name);
        for (String next : calls.get(name)) {
            if (methods.containsKey(next) && !open.contains(next)) {
                int own = reaches(next, name) ? 0 : 1;
                most = Math.max(most, own + depth(next, open));
            }
        }
        open.remove(name);
        return most;
    }

    private boolean reaches(String from, String to) {
        Set<String> reached = new TreeSet<>();
        List<String> next = new ArrayList<>(List.of(from));
        while (!next.isEmpty()) {
            for (String called : calls.getOrDefault(next.remove(next.size() - 1), Set.of())) {
                if (reached.add(called)) {
                    next.add(called);
                }
            }
        }
        return reached.contains(to);
    }

    private void checkConstructors() {
        Check.sentence("rule 12", "A constructor calls no method that another class could override and hands out nothing");
        for (String name : methods.keySet()) {
            MethodTree method = methods.get(name);
            if (isConstructor(method)) {
                Check.due("methods that " + name + " calls", calls.get(name).toString(), "[]");
                for (NewClassTree made : found(method, NewClassTree.class)) {
                    Check.due("what " + name + " hands to " + made.getIdentifier(), made.getArguments().toString(), "");
                }
            }
        }
    }

    private void checkObjectsMade() {
        Check.sentence("rule 12", "What a run makes is counted");
        for (String name : methods.keySet()) {
            if (!isConstructor(methods.get(name))) {
                int made = found(methods.get(name), NewClassTree.class).size();
                int thrown = found(methods.get(name), ThrowTree.class).size();
                Check.due("objects made by " + name + " but exceptions", made - thrown, 0);
            }
        }
    }

    private void gatherCalls() {
        new TreePathScanner<Void, Void>() {
            private String inside = "";

            @Override
            public Void visitMethod(MethodTree tree, Void none) {
                inside = nameOf(trees.getElement(getCurrentPath()));
                methods.put(inside, tree);
                calls.put(inside, new TreeSet<>());
                return super.visitMethod(tree, none);
            }

            @Override
            public Void visitMethodInvocation(MethodInvocationTree tree, Void none) {
                String name = nameOf(trees.getElement(getCurrentPath()));
                if (!isSuper(tree.getMethodSelect())) {
                    calls.get(inside).add(name);
                }
                return super.visitMethodInvocation(tree, none);
            }
        }.scan(unit, null);
    }

    private static boolean isSuper(ExpressionTree called) {
        return called.toString().equals("super");
    }

    private static String nameOf(Element method) {
        return method.getEnclosingElement() + "." + method;
    }

    private static boolean isConstructor(MethodTree method) {
        return method.getReturnType() == null;
    }

    private static boolean isStatic(Set<Modifier> flags) {
        return flags.contains(Modifier.STATIC);
    }

    private static <T extends Tree> List<T> found(Tree from, Class<T> kind) {
        List<T> found = new ArrayList<>();
        new TreeScanner<Void, Void>() {
            @Override
            public Void scan(Tree tree, Void none) {
                if (kind.isInstance(tree)) {
                    found.add(kind.cast(tree));
                }
                return super.scan(tree, none);
            }
        }.scan(from, null);
        return found;
    }
}
