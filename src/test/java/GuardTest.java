import com.sun.source.tree.ArrayAccessTree;
import com.sun.source.tree.AssignmentTree;
import com.sun.source.tree.BinaryTree;
import com.sun.source.tree.CompilationUnitTree;
import com.sun.source.tree.CompoundAssignmentTree;
import com.sun.source.tree.ExpressionTree;
import com.sun.source.tree.IdentifierTree;
import com.sun.source.tree.MemberSelectTree;
import com.sun.source.tree.MethodInvocationTree;
import com.sun.source.tree.MethodTree;
import com.sun.source.tree.NewClassTree;
import com.sun.source.tree.Tree;
import com.sun.source.tree.VariableTree;
import com.sun.source.util.JavacTask;
import com.sun.source.util.SourcePositions;
import com.sun.source.util.TreePathScanner;
import com.sun.source.util.TreeScanner;
import com.sun.source.util.Trees;
import java.nio.charset.StandardCharsets;
import java.nio.file.Files;
import java.nio.file.Path;
import java.util.ArrayList;
import java.util.HashSet;
import java.util.LinkedHashMap;
import java.util.LinkedHashSet;
import java.util.List;
import java.util.Map;
import java.util.Set;
import java.util.regex.Pattern;
import javax.lang.model.element.Element;
import javax.tools.JavaCompiler;
import javax.tools.StandardJavaFileManager;
import javax.tools.ToolProvider;

/**
 * Rules of ../shared/LANGUAGE.md that need the program as the compiler reads it: the library that is called
 * (rule 4), each index and each divisor is looked at before it is used (rule 7), parameters, and how deep
 * calls go (rule 11).
 */
final class GuardTest {
    private static final Path SOURCE = Path.of("src/main/java/PhaseTones.java");
    private static final int DEEPEST_CALL = 8;
    private static final int MOST_PARAMETERS = 7;

    private static final Set<String> LIBRARY = Set.of(
        "Math.min", "Math.max", "Math.abs", "Math.floorMod", "Math.floorDiv", "Integer.bitCount", "System.arraycopy", "Object.<init>");

    private static final Set<Tree.Kind> DIVISIONS = Set.of(
        Tree.Kind.DIVIDE, Tree.Kind.REMAINDER, Tree.Kind.DIVIDE_ASSIGNMENT, Tree.Kind.REMAINDER_ASSIGNMENT);

    /** Each method of the program, and those of the program that it calls. */
    private static final Map<String, Set<String>> CALLS = new LinkedHashMap<>();

    public static void main(String[] args) throws Exception {
        JavaCompiler compiler = ToolProvider.getSystemJavaCompiler();
        try (StandardJavaFileManager files = compiler.getStandardFileManager(null, null, StandardCharsets.UTF_8)) {
            JavacTask task = (JavacTask) compiler.getTask(null, files, null, null, null, files.getJavaFileObjects(SOURCE));
            CompilationUnitTree unit = task.parse().iterator().next();
            task.analyze();
            new Methods(unit, Trees.instance(task)).scan(unit, null);
        }
        Due.isTrue("methods are found", CALLS.size() > 40);
        for (String method : CALLS.keySet()) {
            int depth = depthOf(method, new ArrayList<>());
            Due.isTrue("calls of " + method + " go " + depth + " deep, at most " + DEEPEST_CALL, depth <= DEEPEST_CALL);
        }
        Due.end();
    }

    private static int depthOf(String method, List<String> open) {
        Due.isTrue("no method calls itself: " + open + " " + method, !open.contains(method));
        if (open.contains(method)) {
            return 0;
        }
        open.add(method);
        int deepest = 0;
        for (String called : CALLS.getOrDefault(method, Set.of())) {
            deepest = Math.max(deepest, depthOf(called, open));
        }
        open.remove(open.size() - 1);
        return deepest + 1;
    }

    private static String nameOf(Element element) {
        return element.getEnclosingElement().getSimpleName() + "." + element.getSimpleName();
    }

    private static final class Methods extends TreePathScanner<Void, Void> {
        private final CompilationUnitTree unit;
        private final Trees trees;
        private final SourcePositions positions;
        private final String source;

        /** The method that is read, its name, and what is given to its local variables. */
        private MethodTree method;
        private String name = "";
        private final Map<String, List<ExpressionTree>> given = new LinkedHashMap<>();

        Methods(CompilationUnitTree unit, Trees trees) throws Exception {
            this.unit = unit;
            this.trees = trees;
            positions = trees.getSourcePositions();
            source = Files.readString(SOURCE, StandardCharsets.UTF_8);
        }

        @Override
        public Void visitMethod(MethodTree tree, Void nothing) {
            method = tree;
            name = nameOf(trees.getElement(getCurrentPath()));
            CALLS.putIfAbsent(name, new LinkedHashSet<>());
            Due.isTrue(name + " has few parameters", tree.getParameters().size() <= MOST_PARAMETERS);
            given.clear();
            super.visitMethod(tree, nothing);
            method = null;
            return null;
        }

        @Override
        public Void visitVariable(VariableTree tree, Void nothing) {
            if (method != null && tree.getInitializer() != null) {
                given.computeIfAbsent(tree.getName().toString(), key -> new ArrayList<>()).add(tree.getInitializer());
            }
            return super.visitVariable(tree, nothing);
        }

        @Override
        public Void visitAssignment(AssignmentTree tree, Void nothing) {
            String variable = tree.getVariable().toString();
            if (given.containsKey(variable)) {
                given.get(variable).add(tree.getExpression());
            }
            return super.visitAssignment(tree, nothing);
        }

        @Override
        public Void visitMethodInvocation(MethodInvocationTree tree, Void nothing) {
            called(trees.getElement(getCurrentPath()));
            return super.visitMethodInvocation(tree, nothing);
        }

        @Override
        public Void visitNewClass(NewClassTree tree, Void nothing) {
            called(trees.getElement(getCurrentPath()));
            return super.visitNewClass(tree, nothing);
        }

        private void called(Element element) {
            Element home = element.getEnclosingElement();
            boolean isOwn = home.getSimpleName().contentEquals("PhaseTones")
                || home.getEnclosingElement().getSimpleName().contentEquals("PhaseTones");
            if (isOwn && method != null) {
                CALLS.get(name).add(nameOf(element));
            } else if (!isOwn) {
                Due.isTrue(name + " calls " + nameOf(element) + ", which LANGUAGE.md lists", LIBRARY.contains(nameOf(element)));
            }
        }

        @Override
        public Void visitArrayAccess(ArrayAccessTree tree, Void nothing) {
            boolean isLeftOver = tree.getIndex().toString().startsWith("Math.floorMod(");
            Due.isTrue(name + " looks at the index of " + tree, isLeftOver || isLookedAt(tree.getIndex(), tree));
            return super.visitArrayAccess(tree, nothing);
        }

        @Override
        public Void visitBinary(BinaryTree tree, Void nothing) {
            if (DIVISIONS.contains(tree.getKind())) {
                Due.isTrue(name + " looks at the divisor of " + tree, isLookedAt(tree.getRightOperand(), tree));
            }
            return super.visitBinary(tree, nothing);
        }

        @Override
        public Void visitCompoundAssignment(CompoundAssignmentTree tree, Void nothing) {
            if (DIVISIONS.contains(tree.getKind())) {
                Due.isTrue(name + " looks at the divisor of " + tree, isLookedAt(tree.getExpression(), tree));
            }
            return super.visitCompoundAssignment(tree, nothing);
        }

        /** Whether each name in a number was compared, ahead of the place in the method where it is used. */
        private boolean isLookedAt(ExpressionTree number, Tree where) {
            if (method == null) {
                return false;
            }
            int from = (int) positions.getStartPosition(unit, method);
            int to = (int) positions.getStartPosition(unit, where);
            return isLookedAt(number, source.substring(from, to), new HashSet<>());
        }

        /** A local variable that was not compared itself is looked at if all is that was given to it. */
        private boolean isLookedAt(ExpressionTree number, String ahead, Set<String> seen) {
            for (String used : namesIn(number)) {
                if (wasCompared(used, ahead) || !seen.add(used)) {
                    continue;
                }
                List<ExpressionTree> values = given.getOrDefault(used, List.of());
                if (values.isEmpty() || !values.stream().allMatch(value -> isLookedAt(value, ahead, seen))) {
                    return false;
                }
            }
            return true;
        }

        private static boolean wasCompared(String used, String ahead) {
            String word = "(?:\\w+\\.)?\\b" + Pattern.quote(used) + "\\b";
            String test = word + " (?:[<>]=?|[!=]=) |\\b(?:isNo[A-Z]\\w*|isOutside)\\(" + word;
            return Pattern.compile(test).matcher(ahead).find();
        }

        /** The variables in an expression; constants, whose names have no small letters, are none. */
        private static Set<String> namesIn(ExpressionTree expression) {
            Set<String> names = new LinkedHashSet<>();
            new TreeScanner<Void, Void>() {
                @Override
                public Void visitIdentifier(IdentifierTree tree, Void nothing) {
                    keep(tree.getName().toString());
                    return null;
                }

                @Override
                public Void visitMemberSelect(MemberSelectTree tree, Void nothing) {
                    keep(tree.getIdentifier().toString());
                    return null;
                }

                private void keep(String used) {
                    if (!used.equals(used.toUpperCase())) {
                        names.add(used);
                    }
                }
            }.scan(expression, null);
            return names;
        }
    }
}
