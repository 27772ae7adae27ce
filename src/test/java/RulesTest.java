import com.sun.source.tree.AssertTree;
import com.sun.source.tree.BinaryTree;
import com.sun.source.tree.BlockTree;
import com.sun.source.tree.ClassTree;
import com.sun.source.tree.CompilationUnitTree;
import com.sun.source.tree.ForLoopTree;
import com.sun.source.tree.ImportTree;
import com.sun.source.tree.InstanceOfTree;
import com.sun.source.tree.LambdaExpressionTree;
import com.sun.source.tree.MemberReferenceTree;
import com.sun.source.tree.MethodInvocationTree;
import com.sun.source.tree.MethodTree;
import com.sun.source.tree.NewClassTree;
import com.sun.source.tree.SynchronizedTree;
import com.sun.source.tree.ThrowTree;
import com.sun.source.tree.Tree;
import com.sun.source.tree.TryTree;
import com.sun.source.tree.VariableTree;
import com.sun.source.tree.WhileLoopTree;
import com.sun.source.util.JavacTask;
import com.sun.source.util.SourcePositions;
import com.sun.source.util.TreePath;
import com.sun.source.util.TreePathScanner;
import com.sun.source.util.Trees;
import java.io.File;
import java.io.IOException;
import java.util.ArrayDeque;
import java.util.Deque;
import java.util.LinkedHashMap;
import java.util.LinkedHashSet;
import java.util.List;
import java.util.Map;
import java.util.Set;
import javax.lang.model.element.Element;
import javax.lang.model.element.ExecutableElement;
import javax.lang.model.element.Modifier;
import javax.lang.model.element.TypeElement;
import javax.tools.JavaCompiler;
import javax.tools.StandardJavaFileManager;
import javax.tools.ToolProvider;

/** What of LANGUAGE.md can be seen in the source: run in the project's directory. */
public final class RulesTest {
    private static final Check CHECK = new Check();
    private static final Set<String> IMPORTS = Set.of("java.util.Arrays", "java.util.NoSuchElementException",
            "java.util.ArrayList", "java.util.List", "java.util.Iterator");
    private static final Set<String> EXCEPTIONS = Set.of("IllegalStateException", "IllegalArgumentException",
            "IndexOutOfBoundsException", "ArithmeticException", "UnsupportedOperationException",
            "NoSuchElementException", "RuntimeException");
    private static final Map<String, Set<String>> LIBRARY = Map.of(
            "java.lang.String", Set.of("length", "charAt", "isEmpty", "equals", "indexOf", "substring", "toCharArray"),
            "java.lang.System", Set.of("arraycopy"),
            "java.util.Arrays", Set.of("copyOf", "copyOfRange", "fill"),
            "java.lang.Long", Set.of("compare", "max", "min", "bitCount"),
            "java.lang.Math", Set.of("max", "min", "abs", "floorDiv", "floorMod"));
    private static final Set<String> CONSTANTS = Set.of("int", "long", "boolean", "char", "String",
            "int[]", "long[]", "char[]", "byte[]");

    public static void main(String[] args) throws IOException {
        JavaCompiler compiler = ToolProvider.getSystemJavaCompiler();
        try (StandardJavaFileManager files = compiler.getStandardFileManager(null, null, null)) {
            JavacTask task = (JavacTask) compiler.getTask(null, files, null, List.of("-proc:none"), null,
                    files.getJavaFileObjects(new File("src/main/java/MachineLoom.java")));
            CompilationUnitTree unit = task.parse().iterator().next();
            task.analyze();
            Look look = new Look(Trees.instance(task), unit);
            look.scan(new TreePath(unit), null);
            look.finish();
        }
        CHECK.finish();
    }

    private static void rule(int number, String what, boolean holds) {
        CHECK.due("rule " + number + ": " + what, holds ? 1 : 0, 1);
    }

    private static final class Look extends TreePathScanner<Void, Void> {
        private final Trees trees;
        private final CompilationUnitTree unit;
        private final SourcePositions positions;
        private final Map<String, Set<String>> calls = new LinkedHashMap<>();
        private final Set<String> classes = new LinkedHashSet<>();
        private final Deque<String> open = new ArrayDeque<>();
        private String method = "";

        Look(Trees trees, CompilationUnitTree unit) {
            this.trees = trees;
            this.unit = unit;
            positions = trees.getSourcePositions();
            rule(1, "no package", unit.getPackageName() == null);
            CHECK.due("rule 1: classes of the file", unit.getTypeDecls().size(), 1);
        }

        private long lines(Tree tree) {
            long first = unit.getLineMap().getLineNumber(positions.getStartPosition(unit, tree));
            return unit.getLineMap().getLineNumber(positions.getEndPosition(unit, tree)) - first + 1;
        }

        private void not(int number, Tree tree) {
            long line = unit.getLineMap().getLineNumber(positions.getStartPosition(unit, tree));
            rule(number, "line " + line + " " + tree.getKind(), false);
        }

        @Override
        public Void visitImport(ImportTree tree, Void v) {
            rule(4, tree.toString(), !tree.isStatic() && IMPORTS.contains(tree.getQualifiedIdentifier().toString()));
            return null;
        }

        @Override
        public Void visitClass(ClassTree tree, Void v) {
            long fields = 0;
            for (Tree member : tree.getMembers()) {
                if (member instanceof BlockTree) {
                    not(5, member);
                }
                if (member instanceof VariableTree field) {
                    boolean fixed = field.getModifiers().getFlags().contains(Modifier.STATIC);
                    fields += fixed ? 0 : 1;
                    rule(5, field.getName() + " is a constant", !fixed || isConstant(field));
                }
            }
            classes.add(tree.getSimpleName().toString());
            rule(11, tree.getSimpleName() + " has some twenty fields: " + fields, fields <= 20);
            open.push(tree.getSimpleName().toString());
            super.visitClass(tree, v);
            open.pop();
            return null;
        }

        private static boolean isConstant(VariableTree field) {
            return field.getModifiers().getFlags().contains(Modifier.FINAL) && field.getInitializer() != null
                    && CONSTANTS.contains(field.getType().toString());
        }

        @Override
        public Void visitMethod(MethodTree tree, Void v) {
            method = open.peek() + "." + tree.getName();
            calls.computeIfAbsent(method, name -> new LinkedHashSet<>());
            rule(11, method + " takes at most seven", tree.getParameters().size() <= 7);
            rule(11, method + " is short: " + lines(tree), lines(tree) <= 60);
            super.visitMethod(tree, v);
            method = "";
            return null;
        }

        @Override
        public Void visitMethodInvocation(MethodInvocationTree tree, Void v) {
            Element called = trees.getElement(new TreePath(getCurrentPath(), tree.getMethodSelect()));
            if (called instanceof ExecutableElement && called.getEnclosingElement() instanceof TypeElement of) {
                String name = called.getSimpleName().toString();
                String owner = of.getQualifiedName().toString();
                if (owner.startsWith("MachineLoom")) {
                    calls.get(method).add(of.getSimpleName() + "." + name);
                } else if (!name.equals("<init>")) {
                    rule(4, owner + "." + name, LIBRARY.getOrDefault(owner, Set.of()).contains(name));
                }
            }
            return super.visitMethodInvocation(tree, v);
        }

        @Override
        public Void visitNewClass(NewClassTree tree, Void v) {
            String name = tree.getIdentifier().toString();
            boolean own = trees.getElement(getCurrentPath()).getEnclosingElement().toString().startsWith("MachineLoom");
            rule(4, "new " + name, own || EXCEPTIONS.contains(name));
            rule(2, "new " + name + " has no body", tree.getClassBody() == null);
            if (own) {
                calls.computeIfAbsent(method, unknown -> new LinkedHashSet<>()).add(name + ".<init>");
            }
            return super.visitNewClass(tree, v);
        }

        @Override
        public Void visitThrow(ThrowTree tree, Void v) {
            rule(6, method + " throws what it may", tree.getExpression() instanceof NewClassTree made
                    && EXCEPTIONS.contains(made.getIdentifier().toString()) && made.getArguments().isEmpty());
            rule(6, method + " is no constructor", !method.endsWith("<init>"));
            rule(6, method + " is of the face", method.startsWith("MachineLoom."));
            return super.visitThrow(tree, v);
        }

        @Override
        public Void visitBinary(BinaryTree tree, Void v) {
            boolean text = trees.getTypeMirror(getCurrentPath()).toString().equals("java.lang.String");
            if (text) {
                not(10, tree);
            }
            return super.visitBinary(tree, v);
        }

        @Override
        public Void visitForLoop(ForLoopTree tree, Void v) {
            rule(9, method + " has a for with an end", tree.getCondition() instanceof BinaryTree);
            return super.visitForLoop(tree, v);
        }

        @Override
        public Void visitWhileLoop(WhileLoopTree tree, Void v) {
            rule(9, method + " has a while with an end", !tree.getCondition().toString().equals("(true)"));
            return super.visitWhileLoop(tree, v);
        }

        @Override
        public Void visitLambdaExpression(LambdaExpressionTree tree, Void v) {
            not(2, tree);
            return null;
        }

        @Override
        public Void visitMemberReference(MemberReferenceTree tree, Void v) {
            not(2, tree);
            return null;
        }

        @Override
        public Void visitTry(TryTree tree, Void v) {
            not(6, tree);
            return null;
        }

        @Override
        public Void visitSynchronized(SynchronizedTree tree, Void v) {
            not(6, tree);
            return null;
        }

        @Override
        public Void visitAssert(AssertTree tree, Void v) {
            not(6, tree);
            return null;
        }

        @Override
        public Void visitInstanceOf(InstanceOfTree tree, Void v) {
            not(6, tree);
            return null;
        }

        void finish() {
            rule(11, "some twelve classes: " + classes.size(), classes.size() <= 12);
            for (String name : calls.keySet()) {
                int deep = depth(name, new LinkedHashSet<>());
                rule(8, name + " does not call itself", deep < 1000);
                rule(11, name + " goes at most eight deep: " + deep, deep <= 8);
            }
        }

        /** How many methods stand open at once, this one among them; 1000 and more if it comes back to one. */
        private int depth(String name, Set<String> above) {
            if (!above.add(name)) {
                return 1000;
            }
            int most = 0;
            for (String called : calls.getOrDefault(name, Set.of())) {
                most = Math.max(most, depth(called, above));
            }
            above.remove(name);
            return most + 1;
        }
    }
}
