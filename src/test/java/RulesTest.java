import com.sun.source.tree.*;
import com.sun.source.util.JavacTask;
import com.sun.source.util.TreePathScanner;
import com.sun.source.util.Trees;
import java.nio.file.Files;
import java.nio.file.Path;
import java.util.ArrayList;
import java.util.HashSet;
import java.util.List;
import java.util.Map;
import java.util.Set;
import java.util.TreeMap;
import java.util.TreeSet;
import javax.lang.model.element.Element;
import javax.lang.model.element.Modifier;
import javax.tools.JavaCompiler;
import javax.tools.StandardJavaFileManager;
import javax.tools.ToolProvider;

/** What of ../shared/LANGUAGE.md can be seen in the tree of the source. */
public final class RulesTest {
    private static final Path SOURCE = Path.of("src/main/java/LeanCity.java");
    private static int wrong = 0;

    private static void fail(String rule) {
        wrong++;
        System.out.println(rule);
    }

    public static void main(String[] args) throws Exception {
        JavaCompiler compiler = ToolProvider.getSystemJavaCompiler();
        try (StandardJavaFileManager files = compiler.getStandardFileManager(null, null, null)) {
            JavacTask task = (JavacTask) compiler.getTask(null, files, null, List.of("-proc:none"), null, files.getJavaFileObjects(SOURCE));
            CompilationUnitTree unit = task.parse().iterator().next();
            task.analyze();
            Scan scan = new Scan(Trees.instance(task), unit);
            scan.scan(unit, null);
            scan.finish();
        }
        for (char c : Files.readString(SOURCE).toCharArray()) {
            if (c > 126) {
                fail("3, 4: a sign beyond 126");
            }
        }
        System.out.println(wrong == 0 ? "the rules are kept" : wrong + " rules are broken");
        if (wrong != 0) {
            System.exit(1);
        }
    }

    private static final class Scan extends TreePathScanner<Void, Void> {
        private final Trees trees;
        private final CompilationUnitTree unit;
        private final Set<String> shown = new TreeSet<>();
        private final Map<String, Set<String>> calls = new TreeMap<>();
        private final List<String> hidden = new ArrayList<>();
        private final Set<String> library = new TreeSet<>();
        private String method = "";
        private int classes = 0;

        Scan(Trees trees, CompilationUnitTree unit) {
            this.trees = trees;
            this.unit = unit;
        }

        private long line(Tree tree) {
            return unit.getLineMap().getLineNumber(trees.getSourcePositions().getStartPosition(unit, tree));
        }

        private long lastLine(Tree tree) {
            return unit.getLineMap().getLineNumber(trees.getSourcePositions().getEndPosition(unit, tree));
        }

        @Override
        public Void visitClass(ClassTree tree, Void none) {
            classes++;
            Set<Modifier> flags = tree.getModifiers().getFlags();
            boolean outer = tree.getSimpleName().contentEquals("LeanCity");
            if (!outer && (!flags.contains(Modifier.STATIC) || flags.contains(Modifier.PUBLIC) || flags.contains(Modifier.PROTECTED))) {
                fail("1: class " + tree.getSimpleName());
            }
            int fields = 0;
            for (Tree member : tree.getMembers()) {
                if (member instanceof VariableTree) {
                    Set<Modifier> is = ((VariableTree) member).getModifiers().getFlags();
                    fields += is.contains(Modifier.STATIC) ? 0 : 1;
                    if (is.contains(Modifier.STATIC) && !is.contains(Modifier.FINAL)) {
                        fail("5: " + ((VariableTree) member).getName());
                    }
                    if (outer && !is.contains(Modifier.PRIVATE) && !((VariableTree) member).getName().contentEquals("NONE")) {
                        fail("1: field " + ((VariableTree) member).getName());
                    }
                }
                if (member instanceof BlockTree) {
                    fail("5: an initialiser block");
                }
            }
            if (fields > 20) {
                fail("11: fields of " + tree.getSimpleName() + ": " + fields);
            }
            return super.visitClass(tree, none);
        }

        @Override
        public Void visitMethod(MethodTree tree, Void none) {
            Element element = trees.getElement(getCurrentPath());
            method = element.getEnclosingElement().getSimpleName() + "." + tree.getName();
            calls.computeIfAbsent(method, k -> new TreeSet<>());
            if (tree.getModifiers().getFlags().contains(Modifier.PUBLIC)) {
                shown.add(tree.getName().toString());
            } else if (!tree.getName().contentEquals("<init>")) {
                hidden.add(tree.getName().toString());
                if (element.getEnclosingElement().getSimpleName().contentEquals("LeanCity")
                        && !tree.getModifiers().getFlags().contains(Modifier.PRIVATE)) {
                    fail("1: method " + tree.getName());
                }
            }
            if (tree.getParameters().size() > 7) {
                fail("11: parameters of " + method);
            }
            if (trees.getSourcePositions().getEndPosition(unit, tree) >= 0 && lastLine(tree) - line(tree) > 60) {
                fail("11: lines of " + method);
            }
            return super.visitMethod(tree, none);
        }

        @Override
        public Void visitMethodInvocation(MethodInvocationTree tree, Void none) {
            note(trees.getElement(new com.sun.source.util.TreePath(getCurrentPath(), tree.getMethodSelect())));
            return super.visitMethodInvocation(tree, none);
        }

        private void note(Element called) {
            String owner = called.getEnclosingElement().toString();
            if (owner.startsWith("LeanCity")) {
                calls.get(method).add(called.getEnclosingElement().getSimpleName() + "." + called.getSimpleName());
            } else {
                library.add(owner + "." + called.getSimpleName());
            }
        }

        @Override
        public Void visitNewClass(NewClassTree tree, Void none) {
            String name = tree.getIdentifier().toString();
            if (!name.matches("(Illegal(State|Argument)|IndexOutOfBounds|UnsupportedOperation|NoSuchElement)Exception")
                    && !method.endsWith("<init>") && !method.isEmpty()) {
                fail("12: a call makes a " + name + " in " + method);
            }
            if (tree.getClassBody() != null) {
                fail("2: an anonymous class");
            }
            return super.visitNewClass(tree, none);
        }

        @Override
        public Void visitNewArray(NewArrayTree tree, Void none) {
            if (getCurrentPath().getParentPath().getLeaf().getKind() != Tree.Kind.VARIABLE) {
                fail("12: an array made beside a field, line " + line(tree));
            }
            return super.visitNewArray(tree, none);
        }

        @Override
        public Void visitThrow(ThrowTree tree, Void none) {
            if (method.endsWith("<init>")) {
                fail("6: a throw in a constructor");
            }
            return super.visitThrow(tree, none);
        }

        @Override
        public Void visitTry(TryTree tree, Void none) {
            fail("no exception needs to be caught here, line " + line(tree));
            return super.visitTry(tree, none);
        }

        @Override
        public Void visitLambdaExpression(LambdaExpressionTree tree, Void none) {
            fail("2: a lambda");
            return super.visitLambdaExpression(tree, none);
        }

        @Override
        public Void visitMemberReference(MemberReferenceTree tree, Void none) {
            fail("2: a method reference");
            return super.visitMemberReference(tree, none);
        }

        @Override
        public Void visitTypeCast(TypeCastTree tree, Void none) {
            fail("no cast is needed here, line " + line(tree));
            return super.visitTypeCast(tree, none);
        }

        @Override
        public Void visitBinary(BinaryTree tree, Void none) {
            if (tree.getKind() == Tree.Kind.PLUS
                    && String.valueOf(trees.getTypeMirror(getCurrentPath())).equals("java.lang.String")) {
                fail("10: texts joined by +, line " + line(tree));
            }
            boolean divides = tree.getKind() == Tree.Kind.DIVIDE || tree.getKind() == Tree.Kind.REMAINDER;
            String by = tree.getRightOperand().toString();
            if (divides && !by.matches("[1-9][0-9]*|[A-Z]+|all|many")) {
                fail("7: a divisor to be looked at: " + tree);
            }
            return super.visitBinary(tree, none);
        }

        @Override
        public Void visitForLoop(ForLoopTree tree, Void none) {
            if (tree.getCondition() == null || !tree.getCondition().toString().matches(".*(<|>).*") || tree.getUpdate().isEmpty()) {
                fail("9: a loop without a bound, line " + line(tree));
            }
            return super.visitForLoop(tree, none);
        }

        @Override
        public Void visitWhileLoop(WhileLoopTree tree, Void none) {
            if (!tree.getCondition().toString().startsWith("(i < end")) {
                fail("9: a loop without a bound, line " + line(tree));
            }
            return super.visitWhileLoop(tree, none);
        }

        void finish() {
            if (classes > 12) {
                fail("11: classes: " + classes);
            }
            for (String name : hidden) {
                if (shown.contains(name)) {
                    fail("1: " + name + " is the name of a public method, too");
                }
            }
            Set<String> may = Set.of("java.lang.Integer.bitCount", "java.lang.Math.min", "java.lang.Math.max", "java.lang.Math.abs",
                    "java.lang.System.arraycopy", "java.lang.String.length", "java.lang.String.charAt", "java.lang.Object.<init>",
                    "java.lang.Object.super");
            for (String name : library) {
                if (!may.contains(name) && !name.endsWith("<init>")) {
                    fail("4: " + name);
                }
            }
            for (String name : calls.keySet()) {
                List<String> way = deepest(name, new HashSet<>());
                if (name.startsWith("LeanCity.") && way.size() > 8) {
                    fail("11: calls " + way.size() + " deep: " + way);
                }
            }
        }

        /** The longest way of calls; of calls that are a recursion one level is counted. */
        private List<String> deepest(String name, Set<String> open) {
            List<String> best = new ArrayList<>();
            if (open.contains(name) || !calls.containsKey(name)) {
                return best;
            }
            open.add(name);
            for (String next : calls.get(name)) {
                List<String> way = deepest(next, open);
                best = way.size() > best.size() ? way : best;
            }
            open.remove(name);
            best.add(0, name);
            return best;
        }
    }
}
