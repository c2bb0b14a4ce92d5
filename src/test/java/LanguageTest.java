import com.sun.source.tree.AssertTree;
import com.sun.source.tree.BinaryTree;
import com.sun.source.tree.BlockTree;
import com.sun.source.tree.ClassTree;
import com.sun.source.tree.CompilationUnitTree;
import com.sun.source.tree.DoWhileLoopTree;
import com.sun.source.tree.ExpressionStatementTree;
import com.sun.source.tree.ExpressionTree;
import com.sun.source.tree.ForLoopTree;
import com.sun.source.tree.InstanceOfTree;
import com.sun.source.tree.LambdaExpressionTree;
import com.sun.source.tree.MemberReferenceTree;
import com.sun.source.tree.MethodInvocationTree;
import com.sun.source.tree.MethodTree;
import com.sun.source.tree.NewClassTree;
import com.sun.source.tree.ParenthesizedTree;
import com.sun.source.tree.StatementTree;
import com.sun.source.tree.SynchronizedTree;
import com.sun.source.tree.ThrowTree;
import com.sun.source.tree.Tree;
import com.sun.source.tree.TryTree;
import com.sun.source.tree.TypeCastTree;
import com.sun.source.tree.UnaryTree;
import com.sun.source.tree.VariableTree;
import com.sun.source.tree.WhileLoopTree;
import com.sun.source.util.JavacTask;
import com.sun.source.util.TreePath;
import com.sun.source.util.TreePathScanner;
import com.sun.source.util.Trees;
import java.io.File;
import java.io.IOException;
import java.util.ArrayList;
import java.util.HashMap;
import java.util.LinkedHashSet;
import java.util.List;
import java.util.Map;
import java.util.Set;
import java.util.TreeSet;
import javax.lang.model.element.Element;
import javax.lang.model.element.Modifier;
import javax.lang.model.type.TypeKind;
import javax.tools.JavaCompiler;
import javax.tools.StandardJavaFileManager;
import javax.tools.ToolProvider;

/**
 * Reads BoxFlow.java as the compiler does, and holds it to the rules of LANGUAGE.md that can be told from the text. Where
 * the program uses less than a rule leaves (no list, no text, no recursion, no try), the test asks for that lesser part.
 */
public final class LanguageTest {
    private static final String FILE = "src/main/java/BoxFlow.java";
    private static final int MOST_CLASSES = 12;
    private static final int MOST_FIELDS = 20;
    private static final int MOST_PARAMETERS = 7;
    private static final int MOST_LINES = 60;
    private static final int MOST_CALLS_DEEP = 8;
    private static final Set<String> TYPES = Set.of("int", "long", "byte", "boolean", "void", "int[]", "long[]", "byte[]");
    private static final Set<String> CONSTANT_TYPES = Set.of("int", "long", "boolean", "char", "java.lang.String");
    private static final Set<String> LIBRARY = Set.of("java.lang.Math.min", "java.lang.Math.max",
        "java.lang.Math.floorDiv", "java.lang.System.arraycopy", "java.lang.Object.<init>");
    private static final Set<String> EXCEPTIONS = Set.of("IllegalStateException", "IllegalArgumentException",
        "IndexOutOfBoundsException", "ArithmeticException");

    private static final Check check = new Check("LanguageTest");
    private static final Map<Element, Set<Element>> calls = new HashMap<>();
    private static final Map<Element, Integer> depths = new HashMap<>();

    public static void main(String[] args) throws IOException {
        JavaCompiler compiler = ToolProvider.getSystemJavaCompiler();
        try (StandardJavaFileManager files = compiler.getStandardFileManager(null, null, null)) {
            JavacTask task = (JavacTask) compiler.getTask(null, files, null, List.of("-proc:none"), null,
                files.getJavaFileObjects(new File(FILE)));
            List<CompilationUnitTree> units = new ArrayList<>();
            task.parse().forEach(units::add);
            task.analyze();
            check.due("files", units.size(), 1);
            readUnit(units.get(0), Trees.instance(task));
        }
        for (Element method : calls.keySet()) {
            int deep = depthOf(method, new TreeSet<>());
            check.due("rule 11: calls below " + method + ", " + deep + " deep", deep <= MOST_CALLS_DEEP, true);
        }
        check.end();
    }

    private static void readUnit(CompilationUnitTree unit, Trees trees) {
        check.due("one file without a package line", unit.getPackageName() == null, true);
        check.due("rule 4: imports", unit.getImports().size(), 0);
        check.due("one class with all others inside it", unit.getTypeDecls().size(), 1);
        Reader reader = new Reader(unit, trees);
        reader.scan(unit, null);
        check.due("rule 11: " + reader.classes + " classes", reader.classes <= MOST_CLASSES, true);
    }

    /** How many calls stand open at once below a method, with its own. Rule 8: one that comes back to itself is told. */
    private static int depthOf(Element method, Set<String> open) {
        String name = nameOf(method);
        if (!open.add(name)) {
            check.tell("rule 8: " + name + " comes back to itself");
            return 0;
        }
        if (!depths.containsKey(method)) {
            int deepest = 0;
            for (Element called : calls.getOrDefault(method, Set.of())) {
                deepest = Math.max(deepest, depthOf(called, open));
            }
            depths.put(method, deepest + 1);
        }
        open.remove(name);
        return depths.get(method);
    }

    private static String nameOf(Element element) {
        return element.getEnclosingElement() + "." + element;
    }

    /** Goes through all of the file, and tells what a rule does not leave. */
    private static final class Reader extends TreePathScanner<Void, Void> {
        private final CompilationUnitTree unit;
        private final Trees trees;
        private Element method;
        int classes = 0;

        Reader(CompilationUnitTree unit, Trees trees) {
            this.unit = unit;
            this.trees = trees;
        }

        private long lineOf(Tree tree) {
            return lineAt(trees.getSourcePositions().getStartPosition(unit, tree));
        }

        private long lineAt(long position) {
            return unit.getLineMap().getLineNumber(position);
        }

        private void never(String rule, Tree tree) {
            check.tell(rule + " in line " + lineOf(tree));
        }

        private void must(String rule, boolean kept, Tree tree) {
            check.due(rule + " in line " + lineOf(tree), kept, true);
        }

        private static boolean isOwn(Element element) {
            return element != null && ("." + element.getEnclosingElement()).startsWith(".BoxFlow");
        }

        private Element element() {
            return trees.getElement(getCurrentPath());
        }

        @Override
        public Void visitClass(ClassTree tree, Void nothing) {
            classes++;
            Set<Modifier> flags = tree.getModifiers().getFlags();
            boolean outer = getCurrentPath().getParentPath().getLeaf() == unit;
            boolean inClass = getCurrentPath().getParentPath().getLeaf().getKind() == Tree.Kind.CLASS;
            must("rule 2: a class stands in the file or in a class", outer || inClass, tree);
            must("rule 1: a class inside is private and static",
                outer || flags.contains(Modifier.PRIVATE) && flags.contains(Modifier.STATIC), tree);
            must("rule 12: a class is final, and no constructor calls what another one could override",
                flags.contains(Modifier.FINAL) && tree.getExtendsClause() == null, tree);
            int fields = 0;
            for (Tree member : tree.getMembers()) {
                must("rule 5: no initialiser block", !(member instanceof BlockTree), member);
                if (member instanceof VariableTree field && !field.getModifiers().getFlags().contains(Modifier.STATIC)) {
                    fields++;
                }
            }
            must("rule 11: " + fields + " fields", fields <= MOST_FIELDS, tree);
            return super.visitClass(tree, nothing);
        }

        @Override
        public Void visitMethod(MethodTree tree, Void nothing) {
            method = element();
            calls.putIfAbsent(method, new LinkedHashSet<>());
            must("rule 11: parameters of " + method, tree.getParameters().size() <= MOST_PARAMETERS, tree);
            long last = lineAt(trees.getSourcePositions().getEndPosition(unit, tree));
            must("rule 11: lines of " + method, last - lineOf(tree) < MOST_LINES, tree);
            if (tree.getReturnType() != null) {
                mustBeOfType(tree.getReturnType().toString(), tree);
            }
            return super.visitMethod(tree, nothing);
        }

        @Override
        public Void visitVariable(VariableTree tree, Void nothing) {
            mustBeOfType(element().asType().toString(), tree);
            Set<Modifier> flags = tree.getModifiers().getFlags();
            if (flags.contains(Modifier.STATIC)) {
                must("rule 5: a static field is final", flags.contains(Modifier.FINAL), tree);
                must("rule 5: a static field is a constant", CONSTANT_TYPES.contains(element().asType().toString()), tree);
            }
            return super.visitVariable(tree, nothing);
        }

        private void mustBeOfType(String type, Tree tree) {
            String whole = type.endsWith("[]") ? type.substring(0, type.length() - 2) : type;
            boolean own = ("." + whole).startsWith(".BoxFlow.") || ownClasses().contains(whole);
            must("rule 3: the type " + type, own || TYPES.contains(type), tree);
        }

        private Set<String> ownClasses() {
            Set<String> names = new TreeSet<>();
            for (Tree member : ((ClassTree) unit.getTypeDecls().get(0)).getMembers()) {
                if (member instanceof ClassTree inside) {
                    names.add(inside.getSimpleName().toString());
                }
            }
            return names;
        }

        @Override
        public Void visitMethodInvocation(MethodInvocationTree tree, Void nothing) {
            Element called = element();
            if (isOwn(called)) {
                calls.get(method).add(called);
            } else {
                String name = called.getEnclosingElement() + "." + called.getSimpleName();
                must("rule 4: " + name, LIBRARY.contains(name), tree);
            }
            return super.visitMethodInvocation(tree, nothing);
        }

        @Override
        public Void visitNewClass(NewClassTree tree, Void nothing) {
            Element made = element();
            must("rule 2: no class without a name", tree.getClassBody() == null, tree);
            if (isOwn(made)) {
                calls.get(method).add(made);
                must("rule 12: a call makes nothing but exceptions", method.getSimpleName().contentEquals("<init>"), tree);
            } else {
                must("rule 6: only a throw makes " + made,
                    getCurrentPath().getParentPath().getLeaf() instanceof ThrowTree, tree);
            }
            for (ExpressionTree argument : tree.getArguments()) {
                boolean number = isNumber(argument) || argument.getKind() == Tree.Kind.STRING_LITERAL;
                must("rule 12: a constructor hands out nothing of its object", number, tree);
            }
            return super.visitNewClass(tree, nothing);
        }

        private boolean isNumber(ExpressionTree tree) {
            TypeKind kind = trees.getTypeMirror(new TreePath(getCurrentPath(), tree)).getKind();
            return kind == TypeKind.INT || kind == TypeKind.LONG;
        }

        @Override
        public Void visitThrow(ThrowTree tree, Void nothing) {
            boolean isNew = tree.getExpression() instanceof NewClassTree made
                && EXCEPTIONS.contains(made.getIdentifier().toString());
            must("rule 6: throw new with an exception of the face", isNew, tree);
            must("rule 6: no throw in a constructor", !method.getSimpleName().contentEquals("<init>"), tree);
            must("rule 6: a throw stands in the face alone",
                method.getModifiers().contains(Modifier.PUBLIC), tree);
            return super.visitThrow(tree, nothing);
        }

        @Override
        public Void visitForLoop(ForLoopTree tree, Void nothing) {
            must("rule 9: a loop that counts against a bound", isCounted(tree.getCondition(), tree.getUpdate()), tree);
            return super.visitForLoop(tree, nothing);
        }

        @Override
        public Void visitWhileLoop(WhileLoopTree tree, Void nothing) {
            boolean block = tree.getStatement() instanceof BlockTree;
            must("rule 9: a loop that counts against a bound", block
                && isCounted(tree.getCondition(), ((BlockTree) tree.getStatement()).getStatements()), tree);
            return super.visitWhileLoop(tree, nothing);
        }

        @Override
        public Void visitDoWhileLoop(DoWhileLoopTree tree, Void nothing) {
            never("rule 9: a do loop, of which the program has none", tree);
            return super.visitDoWhileLoop(tree, nothing);
        }

        /** One of the steps is a ++ or -- of what the condition compares. */
        private static boolean isCounted(ExpressionTree condition, List<? extends StatementTree> steps) {
            for (StatementTree step : steps) {
                if (step instanceof ExpressionStatementTree expression
                        && expression.getExpression() instanceof UnaryTree counting
                        && isBound(condition, counting)) {
                    return true;
                }
            }
            return false;
        }

        private static boolean isBound(ExpressionTree condition, UnaryTree counting) {
            if (condition instanceof ParenthesizedTree inside) {
                return isBound(inside.getExpression(), counting);
            }
            if (!(condition instanceof BinaryTree both)) {
                return false;
            }
            if (both.getKind() == Tree.Kind.CONDITIONAL_AND) {
                return isBound(both.getLeftOperand(), counting) || isBound(both.getRightOperand(), counting);
            }
            boolean up = both.getKind() == Tree.Kind.LESS_THAN || both.getKind() == Tree.Kind.LESS_THAN_EQUAL;
            boolean down = both.getKind() == Tree.Kind.GREATER_THAN || both.getKind() == Tree.Kind.GREATER_THAN_EQUAL;
            return both.getLeftOperand().toString().equals(counting.getExpression().toString())
                && (up && counting.getKind() == Tree.Kind.POSTFIX_INCREMENT
                    || down && counting.getKind() == Tree.Kind.POSTFIX_DECREMENT);
        }

        @Override
        public Void visitBinary(BinaryTree tree, Void nothing) {
            must("rules 3, 10: numbers alone are added and compared",
                isPrimitive(tree.getLeftOperand()) && isPrimitive(tree.getRightOperand()), tree);
            return super.visitBinary(tree, nothing);
        }

        @Override
        public Void visitTypeCast(TypeCastTree tree, Void nothing) {
            must("rule 6: a cast of numbers", isPrimitive(tree.getExpression()), tree);
            return super.visitTypeCast(tree, nothing);
        }

        private boolean isPrimitive(ExpressionTree tree) {
            return trees.getTypeMirror(new TreePath(getCurrentPath(), tree)).getKind().isPrimitive();
        }

        @Override
        public Void visitLambdaExpression(LambdaExpressionTree tree, Void nothing) {
            never("rule 2: a lambda", tree);
            return super.visitLambdaExpression(tree, nothing);
        }

        @Override
        public Void visitMemberReference(MemberReferenceTree tree, Void nothing) {
            never("rule 2: a method reference", tree);
            return super.visitMemberReference(tree, nothing);
        }

        @Override
        public Void visitTry(TryTree tree, Void nothing) {
            never("rule 6: a try", tree);
            return super.visitTry(tree, nothing);
        }

        @Override
        public Void visitSynchronized(SynchronizedTree tree, Void nothing) {
            never("rule 6: synchronized", tree);
            return super.visitSynchronized(tree, nothing);
        }

        @Override
        public Void visitAssert(AssertTree tree, Void nothing) {
            never("rule 6: assert", tree);
            return super.visitAssert(tree, nothing);
        }

        @Override
        public Void visitInstanceOf(InstanceOfTree tree, Void nothing) {
            never("rule 6: instanceof, of which the program has none", tree);
            return super.visitInstanceOf(tree, nothing);
        }
    }
}
