import com.sun.source.tree.AssertTree;
import com.sun.source.tree.BlockTree;
import com.sun.source.tree.ClassTree;
import com.sun.source.tree.CompilationUnitTree;
import com.sun.source.tree.DoWhileLoopTree;
import com.sun.source.tree.ForLoopTree;
import com.sun.source.tree.ImportTree;
import com.sun.source.tree.LambdaExpressionTree;
import com.sun.source.tree.LiteralTree;
import com.sun.source.tree.MemberReferenceTree;
import com.sun.source.tree.MethodInvocationTree;
import com.sun.source.tree.MethodTree;
import com.sun.source.tree.NewArrayTree;
import com.sun.source.tree.NewClassTree;
import com.sun.source.tree.SynchronizedTree;
import com.sun.source.tree.ThrowTree;
import com.sun.source.tree.Tree;
import com.sun.source.tree.TryTree;
import com.sun.source.tree.VariableTree;
import com.sun.source.tree.WhileLoopTree;
import com.sun.source.util.JavacTask;
import com.sun.source.util.TreePathScanner;
import com.sun.source.util.Trees;
import java.io.File;
import java.io.IOException;
import java.util.List;
import java.util.Set;
import java.util.regex.Pattern;
import javax.lang.model.element.Element;
import javax.lang.model.element.Modifier;
import javax.lang.model.element.TypeElement;
import javax.tools.JavaCompiler;
import javax.tools.StandardJavaFileManager;
import javax.tools.ToolProvider;

/** The rules of LANGUAGE.md that can be seen in the program's text. */
public final class LanguageTest {
    private static final String PROGRAM = "src/main/java/CircuitChecker.java";
    private static final Set<String> THROWN = Set.of("IllegalStateException", "IllegalArgumentException",
        "IndexOutOfBoundsException", "ArithmeticException", "UnsupportedOperationException", "NoSuchElementException",
        "RuntimeException");
    /** What the program calls of the library; LANGUAGE.md's rule 4 would let it have more. */
    private static final Set<String> LIBRARY = Set.of("String.length", "String.charAt", "String.indexOf",
        "Arrays.fill", "System.arraycopy", "Long.bitCount");
    private static final Pattern TYPE = Pattern.compile(
        "(int|long|boolean|byte|String|int\\[\\]|long\\[\\]|byte\\[\\]|Tape|Code|Circuit|Tokens|TextReader|Values|Steps"
            + "|Claims|Trace)");
    /** From 0 to 40, and the one that is refused. */
    private static final int MOST_LEVELS = 42;

    private final Trees trees;
    private final CompilationUnitTree unit;
    private final CallGraph calls = new CallGraph();
    /** Without those that go a level deeper. */
    private final CallGraph callsOfALevel = new CallGraph();

    private LanguageTest(Trees trees, CompilationUnitTree unit) {
        this.trees = trees;
        this.unit = unit;
    }

    public static void main(String[] args) throws IOException {
        JavaCompiler compiler = ToolProvider.getSystemJavaCompiler();
        try (StandardJavaFileManager files = compiler.getStandardFileManager(null, null, null)) {
            JavacTask task = (JavacTask) compiler.getTask(null, files, null, List.of("-proc:none"), null,
                files.getJavaFileObjects(new File(PROGRAM)));
            CompilationUnitTree unit = task.parse().iterator().next();
            task.analyze();
            LanguageTest test = new LanguageTest(Trees.instance(task), unit);
            test.unit();
            test.new Form().scan(unit, null);
            test.depths();
        }
        Check.finish();
    }

    private void unit() {
        Check.due("package lines", unit.getPackageName() == null, true);
        Check.due("classes beside the public one", unit.getTypeDecls().size(), 1);
        for (ImportTree i : unit.getImports()) {
            String name = i.getQualifiedIdentifier().toString();
            Check.due("import " + name, name.equals("java.util.Arrays") || name.equals("java.util.NoSuchElementException"),
                true);
        }
    }

    private int lineAt(long place) {
        return (int) unit.getLineMap().getLineNumber(place);
    }

    private String where(Tree tree) {
        return "line " + lineAt(trees.getSourcePositions().getStartPosition(unit, tree)) + ": ";
    }

    private int linesOf(Tree tree) {
        return lineAt(trees.getSourcePositions().getEndPosition(unit, tree))
            - lineAt(trees.getSourcePositions().getStartPosition(unit, tree)) + 1;
    }

    /** Looks at each part of the text. */
    private final class Form extends TreePathScanner<Void, Void> {
        private int classes;
        private String method = "";
        private boolean inConstructor;
        private boolean inThrow;

        @Override
        public Void visitClass(ClassTree tree, Void none) {
            classes++;
            Check.due(where(tree) + "rule 11, classes", classes <= 12, true);
            Check.due(where(tree) + "rule 2, a class with a name", tree.getSimpleName().length() > 0, true);
            Check.due(where(tree) + "rule 2, a class inside another one alone",
                getCurrentPath().getParentPath().getLeaf() instanceof ClassTree || classes == 1, true);
            int fields = 0;
            for (Tree member : tree.getMembers()) {
                Check.due(where(member) + "rule 5, a block of initialisers", member instanceof BlockTree, false);
                if (member instanceof VariableTree && !isStatic((VariableTree) member)) {
                    fields++;
                }
            }
            Check.due(where(tree) + "rule 11, fields", fields <= 20, true);
            return super.visitClass(tree, none);
        }

        private boolean isStatic(VariableTree tree) {
            return tree.getModifiers().getFlags().contains(Modifier.STATIC);
        }

        @Override
        public Void visitMethod(MethodTree tree, Void none) {
            Element element = trees.getElement(getCurrentPath());
            method = element.getEnclosingElement().getSimpleName() + "." + element;
            inConstructor = tree.getReturnType() == null;
            calls.add(method);
            Check.due(method + ": rule 11, parameters", tree.getParameters().size() <= 7, true);
            Check.due(method + ": rule 11, lines", linesOf(tree) <= 60, true);
            super.visitMethod(tree, none);
            method = "";
            inConstructor = false;
            return null;
        }

        @Override
        public Void visitVariable(VariableTree tree, Void none) {
            String type = tree.getType().toString();
            Check.due(where(tree) + "rule 3, the type " + type, TYPE.matcher(type).matches(), true);
            if (isStatic(tree)) {
                Check.due(where(tree) + "rule 5, final", tree.getModifiers().getFlags().contains(Modifier.FINAL), true);
                Check.due(where(tree) + "rule 5, a constant", tree.getInitializer() != null, true);
            }
            return super.visitVariable(tree, none);
        }

        @Override
        public Void visitMethodInvocation(MethodInvocationTree tree, Void none) {
            boolean deeper = false;
            for (Tree argument : tree.getArguments()) {
                deeper |= argument.toString().equals("depth + 1");
            }
            called(trees.getElement(getCurrentPath()), tree, deeper);
            return super.visitMethodInvocation(tree, none);
        }

        private void called(Element element, Tree tree, boolean deeper) {
            TypeElement owner = (TypeElement) element.getEnclosingElement();
            String name = owner.getSimpleName() + "." + element.getSimpleName();
            if (owner.getQualifiedName().toString().startsWith("CircuitChecker")) {
                String its = owner.getSimpleName() + "." + element;
                calls.add(method, its);
                if (!deeper) {
                    callsOfALevel.add(method, its);
                }
            } else if (!name.equals("Object.<init>")) {
                Check.due(where(tree) + "rule 4, " + name, LIBRARY.contains(name), true);
            }
        }

        /** A call that makes nothing needs no counting: what is kept is made with the object. */
        @Override
        public Void visitNewClass(NewClassTree tree, Void none) {
            if (inThrow) {
                Check.due(where(tree) + "rule 6, " + tree, THROWN.contains(tree.getIdentifier().toString()), true);
                for (Tree argument : tree.getArguments()) {
                    Check.due(where(tree) + "rule 6, a written text", argument instanceof LiteralTree, true);
                }
            } else {
                called(trees.getElement(getCurrentPath()), tree, false);
                Check.due(where(tree) + "rule 12, made by a constructor", inConstructor || method.isEmpty(), true);
            }
            return super.visitNewClass(tree, none);
        }

        @Override
        public Void visitNewArray(NewArrayTree tree, Void none) {
            Check.due(where(tree) + "rule 12, made by a constructor", inConstructor || method.isEmpty(), true);
            Check.due(where(tree) + "rule 3, dimensions", tree.getDimensions().size() <= 1, true);
            return super.visitNewArray(tree, none);
        }

        @Override
        public Void visitThrow(ThrowTree tree, Void none) {
            Check.due(where(tree) + "rule 6, a throw in a constructor", inConstructor, false);
            Check.due(where(tree) + "rule 6, throw new", tree.getExpression() instanceof NewClassTree, true);
            inThrow = true;
            super.visitThrow(tree, none);
            inThrow = false;
            return null;
        }

        @Override
        public Void visitForLoop(ForLoopTree tree, Void none) {
            Check.due(where(tree) + "rule 9, a loop with an end", tree.getCondition() != null, true);
            return super.visitForLoop(tree, none);
        }

        @Override
        public Void visitWhileLoop(WhileLoopTree tree, Void none) {
            Check.due(where(tree) + "rule 9, a loop with an end", isLiteral(tree.getCondition()), false);
            return super.visitWhileLoop(tree, none);
        }

        @Override
        public Void visitDoWhileLoop(DoWhileLoopTree tree, Void none) {
            Check.due(where(tree) + "rule 9, a loop with an end", isLiteral(tree.getCondition()), false);
            return super.visitDoWhileLoop(tree, none);
        }

        private boolean isLiteral(Tree condition) {
            return condition.toString().equals("(true)");
        }

        @Override
        public Void visitTry(TryTree tree, Void none) {
            return refused(tree, "rule 6, try, which this program does not need");
        }

        @Override
        public Void visitAssert(AssertTree tree, Void none) {
            return refused(tree, "rule 6, assert");
        }

        @Override
        public Void visitSynchronized(SynchronizedTree tree, Void none) {
            return refused(tree, "rule 6, synchronized");
        }

        @Override
        public Void visitLambdaExpression(LambdaExpressionTree tree, Void none) {
            return refused(tree, "rule 2, a lambda");
        }

        @Override
        public Void visitMemberReference(MemberReferenceTree tree, Void none) {
            return refused(tree, "rule 2, a method reference");
        }

        private Void refused(Tree tree, String what) {
            Check.due(where(tree) + what, true, false);
            return null;
        }
    }

    private void depths() {
        Check.due("the calls of read() are seen", calls.reachedFrom("CircuitChecker.read()").size() > 40, true);
        for (String method : calls.methods()) {
            if (method.startsWith("CircuitChecker.")) {
                int deep = calls.depthFrom(method);
                Check.due(method + ": rule 11, " + deep + " calls deep", deep <= 8, true);
            }
        }
        CallGraph level = callsOfALevel.among(calls.recursive());
        Check.due("rule 8, recursions", level.methods().size() > 4, true);
        Check.due("rule 8, recursions that go no level deeper " + level.recursive(), level.recursive().isEmpty(), true);
        for (String method : level.methods()) {
            int open = level.depthFrom(method) * MOST_LEVELS + 8;
            Check.due(method + ": rule 8, " + open + " calls open at once", open < 300, true);
        }
    }
}
