import com.sun.source.tree.AssertTree;
import com.sun.source.tree.BinaryTree;
import com.sun.source.tree.BlockTree;
import com.sun.source.tree.ClassTree;
import com.sun.source.tree.CompilationUnitTree;
import com.sun.source.tree.ExpressionTree;
import com.sun.source.tree.ForLoopTree;
import com.sun.source.tree.ImportTree;
import com.sun.source.tree.LambdaExpressionTree;
import com.sun.source.tree.LineMap;
import com.sun.source.tree.LiteralTree;
import com.sun.source.tree.MemberReferenceTree;
import com.sun.source.tree.MethodInvocationTree;
import com.sun.source.tree.MethodTree;
import com.sun.source.tree.NewArrayTree;
import com.sun.source.tree.NewClassTree;
import com.sun.source.tree.SynchronizedTree;
import com.sun.source.tree.ThrowTree;
import com.sun.source.tree.Tree;
import com.sun.source.tree.TryTree;
import com.sun.source.tree.TypeCastTree;
import com.sun.source.tree.VariableTree;
import com.sun.source.util.JavacTask;
import com.sun.source.util.SourcePositions;
import com.sun.source.util.TreePath;
import com.sun.source.util.TreePathScanner;
import com.sun.source.util.Trees;
import java.io.File;
import java.util.HashMap;
import java.util.HashSet;
import java.util.List;
import java.util.Map;
import java.util.Set;
import javax.lang.model.element.Element;
import javax.lang.model.element.ElementKind;
import javax.lang.model.element.Modifier;
import javax.tools.JavaCompiler;
import javax.tools.StandardJavaFileManager;
import javax.tools.ToolProvider;

/** The rules of LANGUAGE.md that can be seen in the source, by javac's own tree of it. */
public final class FormTest {
    private static final String SOURCE = "src/main/java/IceRun.java";
    private static final Set<String> LIBRARY = Set.of("String.length", "String.charAt", "System.arraycopy", "Math.min", "Math.max",
            "Math.abs");
    private static final Set<String> ENUM_FIELDS = Set.of("int", "long", "boolean", "String");
    private static final Set<String> STATIC_FIELDS = Set.of("int", "long", "boolean", "char", "String", "int[]", "long[]", "char[]",
            "byte[]", "Word[]");
    private static final Set<String> TYPES = Set.of("int", "long", "short", "byte", "char", "boolean", "void", "String", "int[]",
            "byte[]", "boolean[]", "int[][]");

    private FormTest() {
    }

    public static void main(String[] args) throws Exception {
        JavaCompiler compiler = ToolProvider.getSystemJavaCompiler();
        if (compiler == null) {
            System.out.println("this java has no compiler inside: the form was not looked at");
            return;
        }
        try (StandardJavaFileManager files = compiler.getStandardFileManager(null, null, null)) {
            JavacTask task = (JavacTask) compiler.getTask(null, files, null, List.of("-proc:none"), null,
                    files.getJavaFileObjects(new File(SOURCE)));
            Iterable<? extends CompilationUnitTree> units = task.parse();
            task.analyze();
            for (CompilationUnitTree unit : units) {
                Rules rules = new Rules(unit, Trees.instance(task));
                rules.scan(unit, null);
                rules.concludes();
            }
        }
        Due.done();
    }

    private static final class Rules extends TreePathScanner<Void, Void> {
        private final CompilationUnitTree unit;
        private final SourcePositions positions;
        private final LineMap lines;
        private final Trees trees;
        private final Set<String> publicNames = new HashSet<>();
        private final Set<String> otherNames = new HashSet<>();
        private final Set<String> ownClasses = new HashSet<>();
        private final Map<Element, Set<Element>> calls = new HashMap<>();

        Rules(CompilationUnitTree unit, Trees trees) {
            this.unit = unit;
            this.trees = trees;
            positions = trees.getSourcePositions();
            lines = unit.getLineMap();
            for (Tree member : ((ClassTree) unit.getTypeDecls().get(0)).getMembers()) {
                if (member instanceof ClassTree own) {
                    ownClasses.add(own.getSimpleName().toString());
                }
            }
        }

        private void rule(int number, String what, boolean kept, Tree at) {
            long line = lines.getLineNumber(positions.getStartPosition(unit, at));
            Due.said("rule " + number + ", line " + line);
            Due.yes(what, kept);
            Due.said("");
        }

        private Element element() {
            return trees.getElement(getCurrentPath());
        }

        private Element enclosingMethod() {
            for (TreePath p = getCurrentPath(); p != null; p = p.getParentPath()) {
                if (p.getLeaf() instanceof MethodTree) {
                    return trees.getElement(p);
                }
            }
            return null;
        }

        @Override
        public Void visitCompilationUnit(CompilationUnitTree node, Void v) {
            rule(1, "no package line", node.getPackageName() == null, node);
            rule(1, "one class", node.getTypeDecls().size() == 1, node);
            return super.visitCompilationUnit(node, v);
        }

        @Override
        public Void visitImport(ImportTree node, Void v) {
            rule(4, "import of the library that is listed",
                    node.getQualifiedIdentifier().toString().equals("java.util.NoSuchElementException"), node);
            return super.visitImport(node, v);
        }

        @Override
        public Void visitClass(ClassTree node, Void v) {
            Set<Modifier> flags = node.getModifiers().getFlags();
            boolean outermost = getCurrentPath().getParentPath().getLeaf() instanceof CompilationUnitTree;
            if (!outermost) {
                rule(2, "a class directly inside", ownClasses.contains(node.getSimpleName().toString()), node);
                rule(1, "static", flags.contains(Modifier.STATIC) || node.getKind() == Tree.Kind.ENUM, node);
                rule(1, "seen by nobody", !flags.contains(Modifier.PUBLIC) && !flags.contains(Modifier.PROTECTED), node);
            }
            long fields = node.getMembers().stream().filter(m -> m instanceof VariableTree f
                    && !f.getModifiers().getFlags().contains(Modifier.STATIC)).count();
            rule(11, "some twenty fields: " + fields, fields <= 20, node);
            return super.visitClass(node, v);
        }

        @Override
        public Void visitBlock(BlockTree node, Void v) {
            rule(5, "no initialiser block", !(getCurrentPath().getParentPath().getLeaf() instanceof ClassTree), node);
            return super.visitBlock(node, v);
        }

        @Override
        public Void visitVariable(VariableTree node, Void v) {
            Element element = element();
            String type = node.getType() == null ? "?" : node.getType().toString();
            boolean constant = element.getKind() == ElementKind.ENUM_CONSTANT;
            if (element.getKind() == ElementKind.FIELD) {
                boolean isStatic = element.getModifiers().contains(Modifier.STATIC);
                if (isStatic) {
                    rule(5, "static and final", element.getModifiers().contains(Modifier.FINAL), node);
                    rule(5, "static of " + type, STATIC_FIELDS.contains(type), node);
                } else if (element.getEnclosingElement().getKind() == ElementKind.ENUM) {
                    rule(2, "an enum's field of " + type, ENUM_FIELDS.contains(type), node);
                }
                boolean face = element.getSimpleName().contentEquals("NONE");
                rule(1, "private field " + element, face || element.getModifiers().contains(Modifier.PRIVATE), node);
            }
            rule(3, "type " + type, constant || TYPES.contains(type) || ownClasses.contains(type.replace("[]", "")), node);
            return super.visitVariable(node, v);
        }

        @Override
        public Void visitMethod(MethodTree node, Void v) {
            Element element = element();
            if (element.getModifiers().contains(Modifier.PUBLIC)) {
                publicNames.add(node.getName().toString());
            } else if (element.getKind() == ElementKind.METHOD) {
                otherNames.add(node.getName().toString());
            }
            rule(11, "at most seven parameters", node.getParameters().size() <= 7, node);
            long first = lines.getLineNumber(positions.getStartPosition(unit, node));
            long last = lines.getLineNumber(positions.getEndPosition(unit, node));
            rule(11, "some sixty lines: " + (last - first + 1), last - first < 60, node);
            calls.computeIfAbsent(element, e -> new HashSet<>());
            return super.visitMethod(node, v);
        }

        @Override
        public Void visitMethodInvocation(MethodInvocationTree node, Void v) {
            Element called = element();
            Element owner = called.getEnclosingElement();
            String name = owner.getSimpleName() + "." + called.getSimpleName();
            boolean own = owner.getSimpleName().contentEquals("IceRun") || ownClasses.contains(owner.getSimpleName().toString());
            boolean constructor = called.getKind() == ElementKind.CONSTRUCTOR;
            boolean values = called.getSimpleName().contentEquals("values");
            rule(4, "a call of " + name, own || constructor || LIBRARY.contains(name), node);
            Element from = enclosingMethod();
            rule(12, "values() once, in a field", !values || from == null, node);
            if (from != null && own) {
                calls.computeIfAbsent(from, e -> new HashSet<>()).add(called);
            }
            return super.visitMethodInvocation(node, v);
        }

        @Override
        public Void visitNewClass(NewClassTree node, Void v) {
            Element from = enclosingMethod();
            boolean thrown = getCurrentPath().getParentPath().getLeaf() instanceof ThrowTree;
            rule(12, "made with the object", thrown || from == null || from.getKind() == ElementKind.CONSTRUCTOR, node);
            if (from != null && !thrown) {
                calls.computeIfAbsent(from, e -> new HashSet<>()).add(element());
            }
            rule(2, "no anonymous class", node.getClassBody() == null, node);
            return super.visitNewClass(node, v);
        }

        @Override
        public Void visitNewArray(NewArrayTree node, Void v) {
            rule(12, "made with the object", enclosingMethod() == null, node);
            return super.visitNewArray(node, v);
        }

        @Override
        public Void visitThrow(ThrowTree node, Void v) {
            Element from = enclosingMethod();
            boolean told = from != null && Set.of("glide", "ice").contains(from.getSimpleName().toString());
            rule(6, "thrown where the document says", told, node);
            boolean plain = node.getExpression() instanceof NewClassTree made
                    && made.getIdentifier().toString().equals("NoSuchElementException")
                    && made.getArguments().size() == 1 && made.getArguments().get(0) instanceof LiteralTree;
            rule(6, "what the document says, with a written text", plain, node);
            return super.visitThrow(node, v);
        }

        @Override
        public Void visitTry(TryTree node, Void v) {
            rule(6, "nothing is caught", false, node);
            return super.visitTry(node, v);
        }

        @Override
        public Void visitSynchronized(SynchronizedTree node, Void v) {
            rule(6, "no synchronized", false, node);
            return super.visitSynchronized(node, v);
        }

        @Override
        public Void visitAssert(AssertTree node, Void v) {
            rule(6, "no assert", false, node);
            return super.visitAssert(node, v);
        }

        @Override
        public Void visitLambdaExpression(LambdaExpressionTree node, Void v) {
            rule(2, "no lambda", false, node);
            return super.visitLambdaExpression(node, v);
        }

        @Override
        public Void visitMemberReference(MemberReferenceTree node, Void v) {
            rule(2, "no method reference", false, node);
            return super.visitMemberReference(node, v);
        }

        @Override
        public Void visitForLoop(ForLoopTree node, Void v) {
            rule(9, "a loop with an end", node.getCondition() != null && !node.getUpdate().isEmpty(), node);
            return super.visitForLoop(node, v);
        }

        @Override
        public Void visitTypeCast(TypeCastTree node, Void v) {
            rule(7, "a cast among numbers", Set.of("byte", "short", "char", "int", "long").contains(node.getType().toString()), node);
            return super.visitTypeCast(node, v);
        }

        @Override
        public Void visitBinary(BinaryTree node, Void v) {
            boolean text = isText(node.getLeftOperand()) || isText(node.getRightOperand());
            rule(10, "no joining of texts by +", !text, node);
            return super.visitBinary(node, v);
        }

        private static boolean isText(ExpressionTree side) {
            return side instanceof LiteralTree literal && literal.getValue() instanceof String;
        }

        void concludes() {
            Set<String> both = new HashSet<>(publicNames);
            both.retainAll(otherNames);
            rule(1, "no private method by a public name: " + both, both.isEmpty(), unit);
            rule(11, "some twelve classes: " + (1 + ownClasses.size()), ownClasses.size() < 12, unit);
            int deepest = 0;
            for (Element method : calls.keySet()) {
                deepest = Math.max(deepest, depth(method, 1));
            }
            rule(8, "at most eight calls deep (and none in a ring): " + deepest, deepest <= 8, unit);
        }

        /** A ring of calls would go on for ever, so that it ends as one that is too deep. */
        private int depth(Element method, int above) {
            int deepest = above;
            if (above < 20) {
                for (Element called : calls.getOrDefault(method, Set.of())) {
                    deepest = Math.max(deepest, depth(called, above + 1));
                }
            }
            return deepest;
        }
    }
}
