import com.sun.source.tree.AssertTree;
import com.sun.source.tree.BinaryTree;
import com.sun.source.tree.ClassTree;
import com.sun.source.tree.CompilationUnitTree;
import com.sun.source.tree.DoWhileLoopTree;
import com.sun.source.tree.ExpressionTree;
import com.sun.source.tree.ForLoopTree;
import com.sun.source.tree.ImportTree;
import com.sun.source.tree.LambdaExpressionTree;
import com.sun.source.tree.LiteralTree;
import com.sun.source.tree.MemberReferenceTree;
import com.sun.source.tree.MethodInvocationTree;
import com.sun.source.tree.MethodTree;
import com.sun.source.tree.NewClassTree;
import com.sun.source.tree.SynchronizedTree;
import com.sun.source.tree.ThrowTree;
import com.sun.source.tree.Tree;
import com.sun.source.tree.TryTree;
import com.sun.source.tree.TypeCastTree;
import com.sun.source.tree.VariableTree;
import com.sun.source.tree.WhileLoopTree;
import com.sun.source.util.JavacTask;
import com.sun.source.util.SourcePositions;
import com.sun.source.util.TreePathScanner;
import com.sun.source.util.Trees;
import java.io.IOException;
import java.nio.file.Files;
import java.nio.file.Path;
import java.util.List;
import java.util.Map;
import java.util.Set;
import java.util.TreeMap;
import java.util.TreeSet;
import javax.lang.model.element.Element;
import javax.lang.model.element.ElementKind;
import javax.lang.model.element.ExecutableElement;
import javax.lang.model.element.Modifier;
import javax.lang.model.type.TypeMirror;
import javax.tools.JavaCompiler;
import javax.tools.StandardJavaFileManager;
import javax.tools.ToolProvider;

/** The rules of ../shared/LANGUAGE.md, as far as they can be seen in the source by its compiler's eyes. */
public final class LanguageTest {
    private static final Path SOURCE = Path.of("src", "main", "java", "FeedbackQueueSimulator.java");
    private static final String OWN = "FeedbackQueueSimulator";

    /** Rule 4, as far as the program makes use of it. */
    private static final Set<String> LIBRARY = Set.of("java.lang.String.length", "java.lang.String.charAt",
            "java.lang.System.arraycopy", "java.util.Arrays.copyOf", "java.util.Arrays.fill");
    private static final Set<String> EXCEPTIONS = Set.of("java.lang.IllegalStateException",
            "java.lang.IllegalArgumentException", "java.lang.IndexOutOfBoundsException", "java.lang.ArithmeticException",
            "java.lang.UnsupportedOperationException", "java.util.NoSuchElementException", "java.lang.RuntimeException");
    private static final Set<String> CONSTANTS = Set.of("int", "long", "boolean", "char", "java.lang.String", "int[]",
            "long[]", "char[]", "byte[]");
    private static final Set<String> NUMBERS = Set.of("int", "long", "short", "byte", "char", "boolean", "double", "float");
    private static final Set<Tree.Kind> FLOAT_ARITHMETIC = Set.of(Tree.Kind.PLUS, Tree.Kind.MINUS, Tree.Kind.MULTIPLY,
            Tree.Kind.DIVIDE, Tree.Kind.LESS_THAN, Tree.Kind.LESS_THAN_EQUAL, Tree.Kind.GREATER_THAN,
            Tree.Kind.GREATER_THAN_EQUAL, Tree.Kind.EQUAL_TO, Tree.Kind.NOT_EQUAL_TO);

    public static void main(String[] args) throws IOException {
        JavaCompiler compiler = ToolProvider.getSystemJavaCompiler();
        StandardJavaFileManager files = compiler.getStandardFileManager(null, null, null);
        JavacTask task = (JavacTask) compiler.getTask(null, files, null, List.of("-proc:none"), null,
                files.getJavaFileObjects(SOURCE));
        CompilationUnitTree unit = task.parse().iterator().next();
        task.analyze();
        Reader reader = new Reader(unit, Trees.instance(task));
        reader.scan(unit, null);
        reader.wholeFile();
        Check.end();
    }

    private static void rule(int number, String what, boolean kept) {
        Check.due("rule " + number + ": " + what, kept ? 1 : 0, 1);
    }

    private static final class Reader extends TreePathScanner<Void, Void> {
        private final CompilationUnitTree unit;
        private final Trees trees;
        private final SourcePositions positions;
        private final Map<String, Set<String>> calls = new TreeMap<>();
        private final Map<String, Integer> depths = new TreeMap<>();
        private String method = "";
        private boolean inConstructor = false;
        private int classes = 0;

        Reader(CompilationUnitTree unit, Trees trees) {
            this.unit = unit;
            this.trees = trees;
            positions = trees.getSourcePositions();
        }

        private long line(long position) {
            return unit.getLineMap().getLineNumber(position);
        }

        private String at(Tree tree) {
            return "line " + line(positions.getStartPosition(unit, tree)) + ": " + tree.getKind();
        }

        private String typeOf(ExpressionTree tree) {
            TypeMirror type = trees.getTypeMirror(trees.getPath(unit, tree));
            return type == null ? "" : type.toString();
        }

        void wholeFile() throws IOException {
            rule(1, "no package line", unit.getPackageName() == null);
            rule(1, "one class", unit.getTypeDecls().size() == 1);
            rule(11, "some twelve classes: " + classes, classes <= 12);
            int deepest = 0;
            for (String name : calls.keySet()) {
                deepest = Math.max(deepest, depth(name, new TreeSet<>()));
            }
            rule(11, "calls go at most eight deep: " + deepest, deepest > 1 && deepest <= 8);
            for (char sign : Files.readString(SOURCE).toCharArray()) {
                if (sign != '\n' && (sign < 32 || sign > 126)) {
                    rule(4, "a sign that is not 32 to 126: " + (int) sign, false);
                }
            }
        }

        /** How many calls stand open at once below a method, itself too; the program has no recursion. */
        private int depth(String name, Set<String> open) {
            if (depths.containsKey(name)) {
                return depths.get(name);
            }
            rule(8, "no recursion: " + name, !open.contains(name));
            int deepest = 0;
            if (open.add(name)) {
                for (String called : calls.getOrDefault(name, Set.of())) {
                    deepest = Math.max(deepest, depth(called, open));
                }
                open.remove(name);
            }
            depths.put(name, deepest + 1);
            return deepest + 1;
        }

        @Override
        public Void visitImport(ImportTree tree, Void v) {
            rule(4, "import of " + tree.getQualifiedIdentifier(),
                    Set.of("java.util.Arrays", "java.util.ArrayList", "java.util.List").contains(
                            tree.getQualifiedIdentifier().toString()));
            return super.visitImport(tree, v);
        }

        @Override
        public Void visitClass(ClassTree tree, Void v) {
            classes++;
            int fields = 0;
            for (Tree member : tree.getMembers()) {
                rule(5, "no initialiser block, " + at(member), member.getKind() != Tree.Kind.BLOCK);
                if (member instanceof VariableTree field) {
                    boolean fixed = field.getModifiers().getFlags().contains(Modifier.STATIC);
                    fields += fixed ? 0 : 1;
                    if (fixed) {
                        rule(5, "final: " + field, field.getModifiers().getFlags().contains(Modifier.FINAL));
                        rule(5, "a constant's type: " + field, CONSTANTS.contains(elementOf(field).asType().toString()));
                    }
                }
            }
            rule(11, "some twenty fields in " + tree.getSimpleName() + ": " + fields, fields <= 20);
            Tree parent = getCurrentPath().getParentPath().getLeaf();
            rule(2, "no local or anonymous class, " + at(tree), parent == unit || parent instanceof ClassTree);
            return super.visitClass(tree, v);
        }

        private Element elementOf(Tree tree) {
            return trees.getElement(trees.getPath(unit, tree));
        }

        @Override
        public Void visitMethod(MethodTree tree, Void v) {
            ExecutableElement element = (ExecutableElement) elementOf(tree);
            String before = method;
            method = nameOf(element);
            inConstructor = element.getKind() == ElementKind.CONSTRUCTOR;
            calls.computeIfAbsent(method, any -> new TreeSet<>());
            rule(11, "at most seven parameters: " + method, tree.getParameters().size() <= 7);
            long lines = line(positions.getEndPosition(unit, tree)) - line(positions.getStartPosition(unit, tree)) + 1;
            rule(11, "some sixty lines: " + method + " has " + lines, lines <= 60);
            rule(6, "no method of every object: " + method,
                    !Set.of("equals", "hashCode", "toString", "finalize").contains(tree.getName().toString()));
            super.visitMethod(tree, v);
            method = before;
            inConstructor = false;
            return null;
        }

        private static String nameOf(ExecutableElement element) {
            return element.getEnclosingElement() + "." + element;
        }

        private static boolean isOwn(Element element) {
            return element.getEnclosingElement().toString().startsWith(OWN);
        }

        @Override
        public Void visitMethodInvocation(MethodInvocationTree tree, Void v) {
            noteCall(tree, (ExecutableElement) elementOf(tree));
            return super.visitMethodInvocation(tree, v);
        }

        @Override
        public Void visitNewClass(NewClassTree tree, Void v) {
            ExecutableElement made = (ExecutableElement) elementOf(tree);
            if (isOwn(made)) {
                noteCall(tree, made);
            } else {
                rule(4, "made of the library: " + at(tree), EXCEPTIONS.contains(made.getEnclosingElement().toString()));
            }
            return super.visitNewClass(tree, v);
        }

        private void noteCall(Tree tree, ExecutableElement called) {
            boolean superclass = called.getKind() == ElementKind.CONSTRUCTOR && !isOwn(called);
            if (isOwn(called)) {
                calls.computeIfAbsent(method, any -> new TreeSet<>()).add(nameOf(called));
            } else if (!superclass) {
                String name = called.getEnclosingElement() + "." + called.getSimpleName();
                rule(4, "of the library, " + at(tree) + " " + name, LIBRARY.contains(name));
            }
            if (inConstructor && isOwn(called)) {
                rule(12, "a constructor calls constructors alone, " + at(tree), called.getKind() == ElementKind.CONSTRUCTOR);
            }
        }

        @Override
        public Void visitVariable(VariableTree tree, Void v) {
            String type = elementOf(tree).asType().toString();
            String element = type.replace("[]", "");
            int dimensions = (type.length() - element.length()) / 2;
            boolean number = NUMBERS.contains(element);
            rule(3, "the type of " + tree, dimensions == 0 ? number || element.equals("java.lang.String") || element.startsWith(OWN)
                    : number ? dimensions <= 2 : dimensions == 1 && element.startsWith(OWN));
            return super.visitVariable(tree, v);
        }

        @Override
        public Void visitBinary(BinaryTree tree, Void v) {
            String left = typeOf(tree.getLeftOperand());
            String right = typeOf(tree.getRightOperand());
            for (String type : List.of(left, right)) {
                rule(10, "no text is joined by an operator or compared, " + at(tree), !type.equals("java.lang.String"));
                if (type.equals("float") || type.equals("double")) {
                    rule(3, "only + - * / and comparisons, " + at(tree), FLOAT_ARITHMETIC.contains(tree.getKind()));
                }
            }
            return super.visitBinary(tree, v);
        }

        @Override
        public Void visitTypeCast(TypeCastTree tree, Void v) {
            rule(7, "casts are of numbers, which never fail, " + at(tree), NUMBERS.contains(tree.getType().toString()));
            return super.visitTypeCast(tree, v);
        }

        @Override
        public Void visitThrow(ThrowTree tree, Void v) {
            rule(6, "no throw in a constructor, " + at(tree), !inConstructor);
            boolean written = tree.getExpression() instanceof NewClassTree made
                    && EXCEPTIONS.contains(typeOf(made)) && made.getArguments().size() <= 1
                    && (made.getArguments().isEmpty() || made.getArguments().get(0) instanceof LiteralTree);
            rule(6, "throw new E(\"a written text\"), " + at(tree), written);
            return super.visitThrow(tree, v);
        }

        /** What the program does without; rule 6 would let some of it stand. */
        private Void without(int number, Tree tree) {
            rule(number, "without it, " + at(tree), false);
            return null;
        }

        @Override
        public Void visitTry(TryTree tree, Void v) {
            return without(6, tree);
        }

        @Override
        public Void visitSynchronized(SynchronizedTree tree, Void v) {
            return without(6, tree);
        }

        @Override
        public Void visitAssert(AssertTree tree, Void v) {
            return without(6, tree);
        }

        @Override
        public Void visitLambdaExpression(LambdaExpressionTree tree, Void v) {
            return without(2, tree);
        }

        @Override
        public Void visitMemberReference(MemberReferenceTree tree, Void v) {
            return without(2, tree);
        }

        @Override
        public Void visitWhileLoop(WhileLoopTree tree, Void v) {
            return without(9, tree);
        }

        @Override
        public Void visitDoWhileLoop(DoWhileLoopTree tree, Void v) {
            return without(9, tree);
        }

        @Override
        public Void visitForLoop(ForLoopTree tree, Void v) {
            String condition = "" + tree.getCondition();
            String update = "" + tree.getUpdate();
            boolean up = update.contains("++") && condition.matches("(.* && )?\\w+ <=? [\\w.()]+( && .*)?");
            boolean down = update.contains("-") && condition.matches("(.* && )?\\w+ >=? [\\w.()]+( && .*)?");
            rule(9, "a counter against a bound, " + at(tree), tree.getUpdate().size() == 1 && (up || down));
            return super.visitForLoop(tree, v);
        }
    }
}
