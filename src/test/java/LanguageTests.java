import com.sun.source.tree.BinaryTree;
import com.sun.source.tree.ClassTree;
import com.sun.source.tree.CompilationUnitTree;
import com.sun.source.tree.CompoundAssignmentTree;
import com.sun.source.tree.DoWhileLoopTree;
import com.sun.source.tree.EnhancedForLoopTree;
import com.sun.source.tree.ExpressionTree;
import com.sun.source.tree.ForLoopTree;
import com.sun.source.tree.ImportTree;
import com.sun.source.tree.LiteralTree;
import com.sun.source.tree.MethodInvocationTree;
import com.sun.source.tree.MethodTree;
import com.sun.source.tree.NewArrayTree;
import com.sun.source.tree.NewClassTree;
import com.sun.source.tree.Tree;
import com.sun.source.tree.VariableTree;
import com.sun.source.tree.WhileLoopTree;
import com.sun.source.util.JavacTask;
import com.sun.source.util.TreePath;
import com.sun.source.util.TreePathScanner;
import com.sun.source.util.Trees;
import java.io.IOException;
import java.nio.file.Path;
import java.util.ArrayList;
import java.util.EnumSet;
import java.util.HashMap;
import java.util.HashSet;
import java.util.List;
import java.util.Map;
import java.util.Set;
import java.util.TreeSet;
import javax.lang.model.element.Element;
import javax.lang.model.element.ExecutableElement;
import javax.lang.model.element.Modifier;
import javax.lang.model.element.TypeElement;
import javax.lang.model.type.TypeKind;
import javax.tools.JavaCompiler;
import javax.tools.StandardJavaFileManager;
import javax.tools.ToolProvider;

/** What of ../shared/LANGUAGE.md can be seen from the source alone; the numbers are its rules'. */
public final class LanguageTests {
    private static final String SOURCE = "src/main/java/LentTerms.java";
    private static final Set<String> FACE = Set.of("term", "may", "cost", "loan", "close", "wrong", "in", "bill", "said", "judge",
        "type", "clear", "read", "rule", "roundAbout", "want", "plan", "buy", "waits", "stuck", "worth", "deal", "saying",
        "about", "odds", "dumb", "part", "image", "from", "status", "count", "digest", "NONE", "BAD", "NO", "FULL", "<init>");
    private static final Set<String> LIBRARY = Set.of("Math.min", "Math.max", "Integer.bitCount", "System.arraycopy",
        "Arrays.fill", "String.length", "String.charAt");
    private static final Set<Tree.Kind> RULED_OUT = EnumSet.of(Tree.Kind.THROW, Tree.Kind.TRY, Tree.Kind.CATCH,
        Tree.Kind.SYNCHRONIZED, Tree.Kind.ASSERT, Tree.Kind.LAMBDA_EXPRESSION, Tree.Kind.MEMBER_REFERENCE,
        Tree.Kind.SWITCH_EXPRESSION, Tree.Kind.INSTANCE_OF, Tree.Kind.ENUM, Tree.Kind.INTERFACE, Tree.Kind.RECORD);
    private static final int LINES = 60, PARAMETERS = 7, CLASSES = 12, FIELDS = 20, DEPTH = 8;

    private static final List<String> FAULTS = new ArrayList<>();

    public static void main(String[] args) throws IOException {
        JavaCompiler compiler = ToolProvider.getSystemJavaCompiler();
        StandardJavaFileManager files = compiler.getStandardFileManager(null, null, null);
        JavacTask task = (JavacTask) compiler.getTask(null, files, null, List.of("-proc:none"), null,
            files.getJavaFileObjects(Path.of(SOURCE)));
        CompilationUnitTree unit = task.parse().iterator().next();
        task.analyze();
        Look look = new Look(Trees.instance(task), unit);
        look.scan(unit, null);
        look.judgeAll();
        FAULTS.forEach(System.out::println);
        System.out.println(look.methods + " methods looked at, " + FAULTS.size() + " faults");
        if (!FAULTS.isEmpty() || look.methods == 0) {
            System.exit(1);
        }
    }

    private static final class Look extends TreePathScanner<Void, Void> {
        private final Trees trees;
        private final CompilationUnitTree unit;
        private final Map<String, Set<String>> calls = new HashMap<>();
        private final Set<String> privateStatics = new HashSet<>();
        private final Set<String> publicNames = new TreeSet<>(), privateNames = new TreeSet<>(), face = new TreeSet<>();
        private int classes = 0;
        private int methods = 0;
        private int loops = 0;
        private String method = "";

        Look(Trees trees, CompilationUnitTree unit) {
            this.trees = trees;
            this.unit = unit;
        }

        private void fault(int rule, Tree tree, String what) {
            long line = unit.getLineMap().getLineNumber(trees.getSourcePositions().getStartPosition(unit, tree));
            FAULTS.add(SOURCE + ":" + line + ": rule " + rule + ": " + what);
        }

        private Element elementHere() {
            return trees.getElement(getCurrentPath());
        }

        private boolean isOutermost(Element e) {
            return e.getEnclosingElement() instanceof TypeElement t && t.getSimpleName().contentEquals("LentTerms");
        }

        @Override
        public Void scan(Tree tree, Void none) {
            if (tree != null && RULED_OUT.contains(tree.getKind())) {
                fault(6, tree, "no " + tree.getKind());
            }
            return super.scan(tree, none);
        }

        @Override
        public Void visitImport(ImportTree tree, Void none) {
            if (!tree.getQualifiedIdentifier().toString().equals("java.util.Arrays")) {
                fault(4, tree, "no " + tree);
            }
            return super.visitImport(tree, none);
        }

        @Override
        public Void visitClass(ClassTree tree, Void none) {
            classes++;
            Element e = elementHere();
            boolean inside = e.getEnclosingElement() instanceof TypeElement;
            if (inside && (!e.getModifiers().contains(Modifier.STATIC) || e.getModifiers().contains(Modifier.PUBLIC))) {
                fault(2, tree, "a class inside is static and not public");
            }
            long fields = tree.getMembers().stream().filter(m -> m instanceof VariableTree v
                && !v.getModifiers().getFlags().contains(Modifier.STATIC)).count();
            if (fields > FIELDS) {
                fault(11, tree, fields + " fields");
            }
            return super.visitClass(tree, none);
        }

        @Override
        public Void visitVariable(VariableTree tree, Void none) {
            Element e = elementHere();
            if (e.getKind().isField()) {
                noteMember(e, tree);
                Set<Modifier> m = e.getModifiers();
                if (m.contains(Modifier.STATIC) && !m.contains(Modifier.FINAL)) {
                    fault(5, tree, "a static field is final");
                }
                if (m.contains(Modifier.STATIC) && e.asType().getKind() == TypeKind.ARRAY
                    && !Set.of("int[]", "long[]", "char[]", "byte[]").contains(e.asType().toString())) {
                    fault(5, tree, "no static " + e.asType());
                }
            }
            if (Set.of("java.lang.String[]", "float", "double").contains(e.asType().toString())) {
                fault(3, tree, "no " + e.asType());
            }
            return super.visitVariable(tree, none);
        }

        private void noteMember(Element e, Tree tree) {
            boolean isPrivate = e.getModifiers().contains(Modifier.PRIVATE);
            if (isOutermost(e) && !isPrivate) {
                face.add(e.getSimpleName().toString());
                if (!e.getModifiers().contains(Modifier.PUBLIC) || !FACE.contains(e.getSimpleName().toString())) {
                    fault(1, tree, e + " is not of the face");
                }
            }
            if (e instanceof ExecutableElement) {
                (isOutermost(e) && !isPrivate ? publicNames : privateNames).add(e.getSimpleName().toString());
            }
        }

        @Override
        public Void visitMethod(MethodTree tree, Void none) {
            methods++;
            Element e = elementHere();
            noteMember(e, tree);
            long first = unit.getLineMap().getLineNumber(trees.getSourcePositions().getStartPosition(unit, tree));
            long last = unit.getLineMap().getLineNumber(Math.max(0, trees.getSourcePositions().getEndPosition(unit, tree)));
            if (last - first >= LINES) {
                fault(11, tree, (last - first + 1) + " lines");
            }
            if (tree.getParameters().size() > PARAMETERS) {
                fault(11, tree, tree.getParameters().size() + " parameters");
            }
            String outer = method;
            method = nameOf(e);
            calls.put(method, new HashSet<>());
            if (e.getModifiers().containsAll(Set.of(Modifier.PRIVATE, Modifier.STATIC))) {
                privateStatics.add(method);
            }
            super.visitMethod(tree, none);
            method = outer;
            return null;
        }

        private static String nameOf(Element e) {
            return e.getEnclosingElement().getSimpleName() + "." + e.getSimpleName();
        }

        @Override
        public Void visitMethodInvocation(MethodInvocationTree tree, Void none) {
            Element e = trees.getElement(new TreePath(getCurrentPath(), tree.getMethodSelect()));
            String owner = e.getEnclosingElement().toString();
            if (e.getSimpleName().contentEquals("<init>")) {
                return super.visitMethodInvocation(tree, none);
            }
            if (owner.startsWith("LentTerms")) {
                calls.getOrDefault(method, new HashSet<>()).add(nameOf(e));
            } else if (!LIBRARY.contains(nameOf(e))) {
                fault(4, tree, "no " + owner + "." + e.getSimpleName());
            }
            return super.visitMethodInvocation(tree, none);
        }

        @Override
        public Void visitBinary(BinaryTree tree, Void none) {
            String left = String.valueOf(trees.getTypeMirror(new TreePath(getCurrentPath(), tree.getLeftOperand())));
            String right = String.valueOf(trees.getTypeMirror(new TreePath(getCurrentPath(), tree.getRightOperand())));
            if (left.equals("java.lang.String") || right.equals("java.lang.String")) {
                fault(10, tree, "no texts in " + tree);
            }
            lookAtDivisor(tree.getKind(), tree, tree.getRightOperand());
            return super.visitBinary(tree, none);
        }

        @Override
        public Void visitCompoundAssignment(CompoundAssignmentTree tree, Void none) {
            lookAtDivisor(tree.getKind(), tree, tree.getExpression());
            return super.visitCompoundAssignment(tree, none);
        }

        private void lookAtDivisor(Tree.Kind kind, Tree tree, ExpressionTree divisor) {
            boolean divides = Set.of(Tree.Kind.DIVIDE, Tree.Kind.REMAINDER, Tree.Kind.DIVIDE_ASSIGNMENT,
                Tree.Kind.REMAINDER_ASSIGNMENT).contains(kind);
            if (divides && !isAbove(divisor) && !isCountedAboveNought(divisor)) {
                fault(7, tree, "a divisor is looked at before it divides: " + tree);
            }
        }

        private static boolean isAbove(ExpressionTree number) {
            return number instanceof LiteralTree l && l.getValue() instanceof Integer v && v > 0;
        }

        /** By a loop around it that goes on only while it is above a number. */
        private boolean isCountedAboveNought(ExpressionTree divisor) {
            for (TreePath path = getCurrentPath(); path != null; path = path.getParentPath()) {
                if (path.getLeaf() instanceof ForLoopTree loop && loop.getCondition() instanceof BinaryTree condition
                    && condition.getKind() == Tree.Kind.GREATER_THAN && isAbove(condition.getRightOperand())
                    && condition.getLeftOperand().toString().equals(divisor.toString())) {
                    return true;
                }
            }
            return false;
        }

        @Override
        public Void visitNewClass(NewClassTree tree, Void none) {
            if (tree.getClassBody() != null) {
                fault(2, tree, "no class without a name");
            }
            if (loops > 0) {
                fault(12, tree, "no object in a loop");
            }
            return super.visitNewClass(tree, none);
        }

        @Override
        public Void visitNewArray(NewArrayTree tree, Void none) {
            if (loops > 0 || !method.isEmpty() && !method.endsWith("<init>")) {
                fault(12, tree, "rows are made with their object");
            }
            return super.visitNewArray(tree, none);
        }

        @Override
        public Void visitForLoop(ForLoopTree tree, Void none) {
            enterLoop(tree, tree.getCondition());
            super.visitForLoop(tree, none);
            loops--;
            return null;
        }

        @Override
        public Void visitWhileLoop(WhileLoopTree tree, Void none) {
            enterLoop(tree, tree.getCondition());
            super.visitWhileLoop(tree, none);
            loops--;
            return null;
        }

        @Override
        public Void visitDoWhileLoop(DoWhileLoopTree tree, Void none) {
            enterLoop(tree, tree.getCondition());
            super.visitDoWhileLoop(tree, none);
            loops--;
            return null;
        }

        @Override
        public Void visitEnhancedForLoop(EnhancedForLoopTree tree, Void none) {
            loops++;
            super.visitEnhancedForLoop(tree, none);
            loops--;
            return null;
        }

        private void enterLoop(Tree tree, ExpressionTree condition) {
            loops++;
            if (condition == null || condition.toString().replaceAll("[()]", "").equals("true")) {
                fault(9, tree, "a loop has an end");
            }
        }

        /** A method that calls itself counts once. */
        private int depthOf(String name, Set<String> open) {
            int deepest = 0;
            for (String called : calls.getOrDefault(name, Set.of())) {
                if (open.add(called)) {
                    deepest = Math.max(deepest, depthOf(called, open));
                    open.remove(called);
                }
            }
            return deepest + 1;
        }

        /** Here all recursion is of one kind: a private static method that calls itself. */
        private void judgeRecursion(String name) {
            for (String called : calls.get(name)) {
                boolean isItself = called.equals(name);
                if (isItself && !privateStatics.contains(name) || !isItself && reaches(called, name, new HashSet<>())) {
                    FAULTS.add("rule 8: " + name + " comes back to itself");
                }
            }
        }

        private boolean reaches(String from, String wanted, Set<String> seen) {
            return from.equals(wanted) || seen.add(from)
                && calls.getOrDefault(from, Set.of()).stream().anyMatch(next -> reaches(next, wanted, seen));
        }

        void judgeAll() {
            if (classes > CLASSES) {
                FAULTS.add("rule 11: " + classes + " classes");
            }
            if (!face.equals(new TreeSet<>(FACE))) {
                FAULTS.add("rule 1: the face is " + face);
            }
            for (String name : privateNames) {
                if (publicNames.contains(name) && !name.equals("<init>")) {
                    FAULTS.add("rule 1: " + name + " is the name of a public method");
                }
            }
            for (String name : calls.keySet()) {
                int depth = depthOf(name, new HashSet<>(Set.of(name)));
                if (depth > DEPTH) {
                    FAULTS.add("rule 11: " + name + " goes " + depth + " calls deep");
                }
                judgeRecursion(name);
            }
        }
    }
}
