import com.sun.source.tree.BinaryTree;
import com.sun.source.tree.ClassTree;
import com.sun.source.tree.CompilationUnitTree;
import com.sun.source.tree.ExpressionTree;
import com.sun.source.tree.ForLoopTree;
import com.sun.source.tree.LineMap;
import com.sun.source.tree.MethodInvocationTree;
import com.sun.source.tree.MethodTree;
import com.sun.source.tree.ModifiersTree;
import com.sun.source.tree.NewArrayTree;
import com.sun.source.tree.NewClassTree;
import com.sun.source.tree.Tree;
import com.sun.source.tree.VariableTree;
import com.sun.source.util.JavacTask;
import com.sun.source.util.SourcePositions;
import com.sun.source.util.TreePath;
import com.sun.source.util.TreePathScanner;
import com.sun.source.util.Trees;
import java.io.IOException;
import java.nio.file.Path;
import java.util.ArrayList;
import java.util.EnumSet;
import java.util.HashMap;
import java.util.HashSet;
import java.util.List;
import java.util.Map;
import java.util.Set;
import java.util.TreeSet;
import javax.lang.model.element.Element;
import javax.lang.model.element.ElementKind;
import javax.lang.model.element.ExecutableElement;
import javax.lang.model.element.Modifier;
import javax.tools.JavaCompiler;
import javax.tools.StandardJavaFileManager;
import javax.tools.ToolProvider;

/** The rules of LANGUAGE.md that the compiler's own tree of the class can show. */
public final class RulesTest {
    private static final Checks C = new Checks();
    private static final Path SOURCE = Path.of("src/main/java/DrillWardens.java");
    private static final int DEEPEST = 8;
    private static final Set<Tree.Kind> LEFT_OUT = EnumSet.of(
            Tree.Kind.THROW, Tree.Kind.TRY, Tree.Kind.CATCH, Tree.Kind.SYNCHRONIZED, Tree.Kind.ASSERT,
            Tree.Kind.LAMBDA_EXPRESSION, Tree.Kind.MEMBER_REFERENCE, Tree.Kind.BINDING_PATTERN, Tree.Kind.IMPORT,
            Tree.Kind.PACKAGE, Tree.Kind.ANNOTATION, Tree.Kind.TYPE_CAST, Tree.Kind.INSTANCE_OF,
            Tree.Kind.WHILE_LOOP, Tree.Kind.DO_WHILE_LOOP, Tree.Kind.DIVIDE_ASSIGNMENT, Tree.Kind.REMAINDER,
            Tree.Kind.REMAINDER_ASSIGNMENT, Tree.Kind.DOUBLE_LITERAL, Tree.Kind.FLOAT_LITERAL);
    private static final Set<Modifier> MODIFIERS =
            EnumSet.of(Modifier.PUBLIC, Modifier.PRIVATE, Modifier.STATIC, Modifier.FINAL);
    private static final Set<String> LIBRARY = Set.of("String.length", "String.charAt", "String.isEmpty", "Math.max",
            "Math.min", "Integer.bitCount", "System.arraycopy", "Object.<init>");
    private static final Set<String> TYPES = Set.of("int", "boolean", "char", "String", "int[]", "char[]");

    private final Trees trees;
    private final CompilationUnitTree unit;
    private final Map<ExecutableElement, Set<ExecutableElement>> calls = new HashMap<>();
    private final Set<String> classes = new TreeSet<>();
    private final Set<String> found = new TreeSet<>();

    private RulesTest(Trees trees, CompilationUnitTree unit) {
        this.trees = trees;
        this.unit = unit;
    }

    public static void main(String[] args) throws IOException {
        JavaCompiler compiler = ToolProvider.getSystemJavaCompiler();
        C.test("the compiler is there");
        C.holds("a compiler", compiler != null);
        if (compiler != null) {
            try (StandardJavaFileManager files = compiler.getStandardFileManager(null, null, null)) {
                JavacTask task = (JavacTask) compiler.getTask(
                        null, files, null, List.of("-proc:none"), null, files.getJavaFileObjects(SOURCE));
                CompilationUnitTree unit = task.parse().iterator().next();
                task.analyze();
                new RulesTest(Trees.instance(task), unit).look();
            }
        }
        C.finish();
    }

    private void look() {
        new Names().scan(unit, null);
        new Reader().scan(unit, null);
        rule("rules 1 and 2: classes", "class");
        rule("rules 2, 6, 7 and 9: what the language leaves out, and what this class does without", "kind");
        rule("rule 3: types", "type");
        rule("rule 4: the library", "library");
        rule("rule 5: static fields", "static");
        rule("rule 7: a divisor is a number that is not 0", "divisor");
        rule("rule 9: loops have an end", "loop");
        rule("rule 10: texts are not joined by +", "text");
        rule("rule 11: methods and fields", "size");
        rule("rule 12: objects are made in constructors", "new");
        C.test("rule 11: at most some twelve classes");
        C.holds("classes: " + classes, classes.size() <= 12);
        depth();
    }

    private void rule(String name, String group) {
        C.test(name);
        for (String line : found) {
            C.holds(line, !line.startsWith(group + ": "));
        }
    }

    private void depth() {
        C.test("rules 8 and 11: no recursion, calls go at most " + DEEPEST + " deep");
        int deepest = 0;
        for (ExecutableElement method : calls.keySet()) {
            List<ExecutableElement> open = new ArrayList<>();
            int depth = depthFrom(method, open);
            deepest = Math.max(deepest, depth);
            C.holds(method + " goes " + depth + " deep", depth <= DEEPEST);
        }
        C.holds("methods were found", calls.size() > 80 && deepest > 2);
    }

    private int depthFrom(ExecutableElement method, List<ExecutableElement> open) {
        if (open.contains(method)) {
            C.holds("recursion of " + method, false);
            return 0;
        }
        open.add(method);
        int deepest = 0;
        for (ExecutableElement next : calls.getOrDefault(method, Set.of())) {
            deepest = Math.max(deepest, depthFrom(next, open));
        }
        open.remove(open.size() - 1);
        return deepest + 1;
    }

    /** The names of the classes of the file, which the types may be of. */
    private final class Names extends TreePathScanner<Void, Void> {
        @Override
        public Void visitClass(ClassTree tree, Void nothing) {
            classes.add(tree.getSimpleName().toString());
            return super.visitClass(tree, nothing);
        }
    }

    private final class Reader extends TreePathScanner<Void, Void> {
        private ExecutableElement current;

        private void note(String group, Tree tree) {
            long position = trees.getSourcePositions().getStartPosition(unit, tree);
            found.add(group + ": line " + unit.getLineMap().getLineNumber(position) + ": "
                    + tree.toString().replaceAll("\\s+", " "));
        }

        @Override
        public Void scan(Tree tree, Void nothing) {
            if (tree != null && LEFT_OUT.contains(tree.getKind())) {
                note("kind", tree);
            }
            return super.scan(tree, nothing);
        }

        @Override
        public Void visitModifiers(ModifiersTree tree, Void nothing) {
            if (!MODIFIERS.containsAll(tree.getFlags())) {
                note("kind", tree);
            }
            return super.visitModifiers(tree, nothing);
        }

        @Override
        public Void visitClass(ClassTree tree, Void nothing) {
            Element element = trees.getElement(getCurrentPath());
            boolean isOuter = element.getEnclosingElement().getKind() == ElementKind.PACKAGE;
            Set<Modifier> modifiers = tree.getModifiers().getFlags();
            boolean isNested = modifiers.contains(Modifier.STATIC) && !modifiers.contains(Modifier.PUBLIC)
                    && !modifiers.contains(Modifier.PROTECTED)
                    && element.getEnclosingElement().getKind() == ElementKind.CLASS;
            if (tree.getKind() != Tree.Kind.CLASS || !(isOuter || isNested)) {
                note("class", tree);
            }
            int fields = 0;
            for (Tree member : tree.getMembers()) {
                if (member instanceof VariableTree && !isStatic(((VariableTree) member).getModifiers())) {
                    fields++;
                }
                if (member.getKind() == Tree.Kind.BLOCK) {
                    note("static", member);
                }
            }
            if (fields > 20) {
                note("size", tree);
            }
            return super.visitClass(tree, nothing);
        }

        private boolean isStatic(ModifiersTree modifiers) {
            return modifiers.getFlags().contains(Modifier.STATIC);
        }

        @Override
        public Void visitMethod(MethodTree tree, Void nothing) {
            ExecutableElement before = current;
            current = (ExecutableElement) trees.getElement(getCurrentPath());
            calls.putIfAbsent(current, new HashSet<>());
            LineMap lines = unit.getLineMap();
            SourcePositions positions = trees.getSourcePositions();
            long end = positions.getEndPosition(unit, tree);
            if (end > 0) {
                long many = lines.getLineNumber(end) - lines.getLineNumber(positions.getStartPosition(unit, tree)) + 1;
                if (many > 60 || tree.getParameters().size() > 7) {
                    note("size", tree);
                }
            }
            if (tree.getReturnType() != null) {
                type(tree.getReturnType(), tree);
            }
            if (Set.of("equals", "hashCode", "toString").contains(tree.getName().toString())) {
                note("kind", tree);
            }
            super.visitMethod(tree, nothing);
            current = before;
            return null;
        }

        private void type(Tree type, Tree where) {
            String name = type.toString();
            boolean isOwn = classes.contains(name.replace("[]", "")) && !name.endsWith("[][]");
            if (!TYPES.contains(name) && !isOwn && !name.equals("void")) {
                note("type", where);
            }
        }

        @Override
        public Void visitVariable(VariableTree tree, Void nothing) {
            type(tree.getType(), tree);
            boolean isField = trees.getElement(getCurrentPath()).getKind() == ElementKind.FIELD;
            boolean isConstant = tree.getModifiers().getFlags().contains(Modifier.FINAL)
                    && Set.of("int", "char", "boolean", "String").contains(tree.getType().toString());
            if (isField && isStatic(tree.getModifiers()) && !isConstant) {
                note("static", tree);
            }
            return super.visitVariable(tree, nothing);
        }

        @Override
        public Void visitMethodInvocation(MethodInvocationTree tree, Void nothing) {
            Element element = trees.getElement(new TreePath(getCurrentPath(), tree.getMethodSelect()));
            String owner = element.getEnclosingElement().getSimpleName().toString();
            if (classes.contains(owner)) {
                called(element);
            } else if (!LIBRARY.contains(owner + "." + element.getSimpleName())) {
                note("library", tree);
            }
            return super.visitMethodInvocation(tree, nothing);
        }

        private void called(Element element) {
            if (current != null) {
                calls.computeIfAbsent(current, key -> new HashSet<>()).add((ExecutableElement) element);
            }
        }

        @Override
        public Void visitNewClass(NewClassTree tree, Void nothing) {
            if (tree.getClassBody() != null || !classes.contains(tree.getIdentifier().toString())) {
                note("class", tree);
            }
            made(tree);
            called(trees.getElement(getCurrentPath()));
            return super.visitNewClass(tree, nothing);
        }

        @Override
        public Void visitNewArray(NewArrayTree tree, Void nothing) {
            made(tree);
            return super.visitNewArray(tree, nothing);
        }

        private void made(Tree tree) {
            if (current == null || current.getKind() != ElementKind.CONSTRUCTOR) {
                note("new", tree);
            }
        }

        @Override
        public Void visitForLoop(ForLoopTree tree, Void nothing) {
            if (tree.getCondition() == null || tree.getUpdate().size() != 1) {
                note("loop", tree);
            }
            return super.visitForLoop(tree, nothing);
        }

        @Override
        public Void visitBinary(BinaryTree tree, Void nothing) {
            boolean isText = isText(tree.getLeftOperand()) || isText(tree.getRightOperand());
            if (isText) {
                note("text", tree);
            }
            if (tree.getKind() == Tree.Kind.DIVIDE && !tree.getRightOperand().toString().equals("QUARTER_DAYS")) {
                note("divisor", tree);
            }
            return super.visitBinary(tree, nothing);
        }

        private boolean isText(ExpressionTree tree) {
            var type = trees.getTypeMirror(new TreePath(getCurrentPath(), tree));
            return type != null && type.toString().equals("java.lang.String");
        }
    }
}
