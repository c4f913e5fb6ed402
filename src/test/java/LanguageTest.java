import com.sun.source.tree.ArrayAccessTree;
import com.sun.source.tree.AssertTree;
import com.sun.source.tree.BinaryTree;
import com.sun.source.tree.BlockTree;
import com.sun.source.tree.ClassTree;
import com.sun.source.tree.CompilationUnitTree;
import com.sun.source.tree.CompoundAssignmentTree;
import com.sun.source.tree.DoWhileLoopTree;
import com.sun.source.tree.ExpressionTree;
import com.sun.source.tree.ForLoopTree;
import com.sun.source.tree.ImportTree;
import com.sun.source.tree.LambdaExpressionTree;
import com.sun.source.tree.MemberReferenceTree;
import com.sun.source.tree.MethodInvocationTree;
import com.sun.source.tree.MethodTree;
import com.sun.source.tree.NewClassTree;
import com.sun.source.tree.SynchronizedTree;
import com.sun.source.tree.ThrowTree;
import com.sun.source.tree.Tree;
import com.sun.source.tree.TryTree;
import com.sun.source.tree.TypeCastTree;
import com.sun.source.tree.VariableTree;
import com.sun.source.tree.WhileLoopTree;
import com.sun.source.util.JavacTask;
import com.sun.source.util.TreePath;
import com.sun.source.util.TreePathScanner;
import com.sun.source.util.Trees;
import java.io.IOException;
import java.nio.charset.StandardCharsets;
import java.nio.file.Files;
import java.nio.file.Path;
import java.util.Arrays;
import java.util.HashSet;
import java.util.LinkedHashMap;
import java.util.LinkedHashSet;
import java.util.List;
import java.util.Map;
import java.util.Set;
import javax.lang.model.element.Element;
import javax.lang.model.element.ElementKind;
import javax.lang.model.element.Modifier;
import javax.lang.model.element.TypeElement;
import javax.lang.model.type.TypeMirror;
import javax.tools.JavaCompiler;
import javax.tools.StandardJavaFileManager;
import javax.tools.ToolProvider;

/**
 * The rules of ../shared/LANGUAGE.md that can be read off the source of the class. Of types, library and loops it
 * takes what the class uses alone, which is less than the rules leave: a wider use has to be let in here.
 */
public final class LanguageTest {
    private static final Path SOURCE = Path.of("src/main/java/TalkHouse.java");
    private static final Set<String> LIBRARY = new HashSet<>(Arrays.asList(
        "java.lang.String.length", "java.lang.String.charAt", "java.lang.String.indexOf", "java.lang.String.isEmpty",
        "java.lang.String.equals", "java.lang.String.substring", "java.lang.Math.max", "java.lang.Math.min",
        "java.lang.Math.abs", "java.lang.System.arraycopy"));
    private static final Set<String> TYPES = new HashSet<>(Arrays.asList("int", "int[]", "boolean", "String"));
    private static final List<String> INDEXERS = List.of("Row", "Cursor");
    private static final int LINES = 60;
    private static final int PARAMETERS = 7;
    private static final int CLASSES = 12;
    private static final int FIELDS = 20;
    private static final int DEEP = 8;

    public static void main(String[] args) throws IOException {
        onlyPlainSigns();
        JavaCompiler compiler = ToolProvider.getSystemJavaCompiler();
        try (StandardJavaFileManager files = compiler.getStandardFileManager(null, null, null)) {
            JavacTask task = (JavacTask) compiler.getTask(null, files, null, List.of("-proc:none"), null,
                files.getJavaFileObjects(SOURCE));
            CompilationUnitTree unit = task.parse().iterator().next();
            task.analyze();
            Rules rules = new Rules(Trees.instance(task), unit);
            rules.scan(unit, null);
            rules.judgeWhole();
        }
        Desk.finish();
    }

    private static void rule(int number, String what, boolean holds) {
        Desk.due("rule " + number + ": " + what, holds, true);
    }

    /** Texts hold the signs 1 to 127, so the file is kept to them as well. */
    private static void onlyPlainSigns() throws IOException {
        String text = Files.readString(SOURCE, StandardCharsets.ISO_8859_1);
        for (int i = 0; i < text.length(); i++) {
            char sign = text.charAt(i);
            if (sign != '\n' && (sign < 32 || sign > 126)) {
                rule(4, "sign " + (int) sign + " at " + i, false);
            }
        }
    }

    private static final class Rules extends TreePathScanner<Void, Void> {
        private final Trees trees;
        private final CompilationUnitTree unit;
        private final Map<Element, Set<Element>> calls = new LinkedHashMap<>();
        private final Set<TypeElement> classes = new LinkedHashSet<>();
        private Element method;

        Rules(Trees trees, CompilationUnitTree unit) {
            this.trees = trees;
            this.unit = unit;
        }

        private Element here() {
            return trees.getElement(getCurrentPath());
        }

        private String typeOf(Tree tree) {
            TypeMirror type = trees.getTypeMirror(new TreePath(getCurrentPath(), tree));
            return type == null ? "" : type.toString();
        }

        private long line(Tree tree, boolean last) {
            long start = trees.getSourcePositions().getStartPosition(unit, tree);
            long end = trees.getSourcePositions().getEndPosition(unit, tree);
            return unit.getLineMap().getLineNumber(last ? end : start);
        }

        private void never(int rule, Tree tree, String what) {
            rule(rule, what + " in line " + line(tree, false), false);
        }

        private boolean isOwn(Element element) {
            for (Element e = element; e != null; e = e.getEnclosingElement()) {
                if (e.getKind() == ElementKind.CLASS && e.getSimpleName().contentEquals("TalkHouse")) {
                    return true;
                }
            }
            return false;
        }

        @Override
        public Void visitClass(ClassTree tree, Void none) {
            TypeElement element = (TypeElement) here();
            classes.add(element);
            boolean outer = element.getSimpleName().contentEquals("TalkHouse");
            Set<Modifier> marks = element.getModifiers();
            Tree parent = getCurrentPath().getParentPath().getLeaf();
            rule(1, element + " is public if it is the outer one", marks.contains(Modifier.PUBLIC) == outer);
            rule(2, element + " stands in a class and is static",
                outer || parent instanceof ClassTree && marks.contains(Modifier.STATIC));
            int fields = 0;
            for (Tree member : tree.getMembers()) {
                if (member instanceof VariableTree field
                        && !field.getModifiers().getFlags().contains(Modifier.STATIC)) {
                    fields++;
                }
                rule(5, element + " has no block of its own", !(member instanceof BlockTree));
            }
            rule(11, element + " has " + fields + " fields", fields <= FIELDS);
            return super.visitClass(tree, none);
        }

        @Override
        public Void visitMethod(MethodTree tree, Void none) {
            Element before = method;
            method = here();
            calls.computeIfAbsent(method, m -> new LinkedHashSet<>());
            long lines = line(tree, true) - line(tree, false) + 1;
            rule(11, method + " has " + lines + " lines", lines <= LINES);
            rule(11, method + " has few parameters", tree.getParameters().size() <= PARAMETERS);
            boolean common = List.of("equals", "hashCode", "toString").contains(tree.getName().toString());
            rule(6, method + " is none that each object has", !common);
            super.visitMethod(tree, none);
            method = before;
            return null;
        }

        @Override
        public Void visitVariable(VariableTree tree, Void none) {
            Element element = here();
            String type = element.asType().toString();
            boolean own = type.startsWith("TalkHouse.");
            rule(3, element + " is of " + type, own || TYPES.contains(type.replace("java.lang.", "")));
            if (element.getModifiers().contains(Modifier.STATIC)) {
                rule(5, element + " is final", element.getModifiers().contains(Modifier.FINAL) && !own);
            }
            return super.visitVariable(tree, none);
        }

        @Override
        public Void visitMethodInvocation(MethodInvocationTree tree, Void none) {
            called(here(), tree);
            return super.visitMethodInvocation(tree, none);
        }

        @Override
        public Void visitNewClass(NewClassTree tree, Void none) {
            rule(2, "no class without a name in line " + line(tree, false), tree.getClassBody() == null);
            called(here(), tree);
            return super.visitNewClass(tree, none);
        }

        private void called(Element element, Tree call) {
            if (!isOwn(element)) {
                String name = element.getEnclosingElement() + "." + element.getSimpleName();
                boolean listed = LIBRARY.contains(name) || name.equals("java.lang.Object.<init>");
                rule(4, name + " in line " + line(call, false) + " stands in the list", listed);
            } else if (method != null) {
                calls.get(method).add(element);
            }
        }

        @Override
        public Void visitImport(ImportTree tree, Void none) {
            never(4, tree, "import");
            return null;
        }

        @Override
        public Void visitLambdaExpression(LambdaExpressionTree tree, Void none) {
            never(2, tree, "a lambda");
            return null;
        }

        @Override
        public Void visitMemberReference(MemberReferenceTree tree, Void none) {
            never(2, tree, "a method reference");
            return null;
        }

        @Override
        public Void visitThrow(ThrowTree tree, Void none) {
            never(6, tree, "throw");
            return null;
        }

        @Override
        public Void visitTry(TryTree tree, Void none) {
            never(6, tree, "try");
            return null;
        }

        @Override
        public Void visitSynchronized(SynchronizedTree tree, Void none) {
            never(6, tree, "synchronized");
            return null;
        }

        @Override
        public Void visitAssert(AssertTree tree, Void none) {
            never(6, tree, "assert");
            return null;
        }

        @Override
        public Void visitTypeCast(TypeCastTree tree, Void none) {
            rule(6, "a cast in line " + line(tree, false), tree.getType().getKind() == Tree.Kind.PRIMITIVE_TYPE);
            return super.visitTypeCast(tree, none);
        }

        @Override
        public Void visitBinary(BinaryTree tree, Void none) {
            boolean text = typeOf(tree.getLeftOperand()).equals("java.lang.String")
                || typeOf(tree.getRightOperand()).equals("java.lang.String");
            rule(10, "no text by a sign in line " + line(tree, false), !text);
            boolean divides = tree.getKind() == Tree.Kind.DIVIDE || tree.getKind() == Tree.Kind.REMAINDER;
            boolean written = tree.getRightOperand().getKind() == Tree.Kind.INT_LITERAL;
            boolean inRun = method != null && method.getSimpleName().contentEquals("run");
            rule(7, "only run divides by what is not written out: line " + line(tree, false),
                !divides || written || inRun);
            return super.visitBinary(tree, none);
        }

        @Override
        public Void visitCompoundAssignment(CompoundAssignmentTree tree, Void none) {
            boolean text = typeOf(tree.getVariable()).equals("java.lang.String");
            rule(10, "no text by += in line " + line(tree, false), !text);
            return super.visitCompoundAssignment(tree, none);
        }

        /** Few places look into arrays, so that it can be seen that each looks at the index first. */
        @Override
        public Void visitArrayAccess(ArrayAccessTree tree, Void none) {
            String place = method == null ? "" : method.getEnclosingElement().getSimpleName().toString();
            rule(7, "only Row and Cursor index arrays: line " + line(tree, false), INDEXERS.contains(place));
            return super.visitArrayAccess(tree, none);
        }

        /** The class keeps to loops that count, so that their end can be seen. */
        @Override
        public Void visitForLoop(ForLoopTree tree, Void none) {
            boolean counts = tree.getInitializer().size() == 1 && tree.getUpdate().size() == 1;
            rule(9, "a loop that counts in line " + line(tree, false), counts && isBound(tree.getCondition()));
            return super.visitForLoop(tree, none);
        }

        /** A comparison, or one that is joined with others by &&. */
        private static boolean isBound(ExpressionTree condition) {
            if (!(condition instanceof BinaryTree both)) {
                return false;
            }
            switch (both.getKind()) {
                case CONDITIONAL_AND:
                    return isBound(both.getLeftOperand());
                case LESS_THAN: case LESS_THAN_EQUAL: case GREATER_THAN: case GREATER_THAN_EQUAL:
                    return true;
                default:
                    return false;
            }
        }

        @Override
        public Void visitWhileLoop(WhileLoopTree tree, Void none) {
            never(9, tree, "a loop that does not count");
            return null;
        }

        @Override
        public Void visitDoWhileLoop(DoWhileLoopTree tree, Void none) {
            never(9, tree, "a loop that does not count");
            return null;
        }

        void judgeWhole() {
            rule(11, classes.size() + " classes", classes.size() <= CLASSES);
            for (Element one : calls.keySet()) {
                judgeRecursion(one);
                int deep = depth(one, new HashSet<>());
                rule(11, one.getEnclosingElement() + "." + one + " goes " + deep + " deep", deep <= DEEP);
            }
        }

        private Set<Element> reached(Element from) {
            Set<Element> reached = new LinkedHashSet<>();
            collect(from, reached);
            return reached;
        }

        private void collect(Element from, Set<Element> reached) {
            for (Element next : calls.getOrDefault(from, Set.of())) {
                if (reached.add(next)) {
                    collect(next, reached);
                }
            }
        }

        private void judgeRecursion(Element one) {
            if (reached(one).contains(one)) {
                rule(8, one + " is private", one.getModifiers().contains(Modifier.PRIVATE));
                rule(8, one + " carries its depth", one.toString().contains("int"));
            }
        }

        /** How many calls stand open at most; methods that call one another count as one. */
        private int depth(Element one, Set<Element> open) {
            Set<Element> ring = new LinkedHashSet<>();
            ring.add(one);
            for (Element other : reached(one)) {
                if (reached(other).contains(one)) {
                    ring.add(other);
                }
            }
            int deepest = 0;
            for (Element member : ring) {
                for (Element next : calls.getOrDefault(member, Set.of())) {
                    if (!ring.contains(next) && open.add(next)) {
                        deepest = Math.max(deepest, depth(next, open));
                        open.remove(next);
                    }
                }
            }
            return deepest + 1;
        }
    }
}
