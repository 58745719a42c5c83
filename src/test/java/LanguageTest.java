import com.sun.source.tree.AssertTree;
import com.sun.source.tree.BinaryTree;
import com.sun.source.tree.BlockTree;
import com.sun.source.tree.CatchTree;
import com.sun.source.tree.ClassTree;
import com.sun.source.tree.CompilationUnitTree;
import com.sun.source.tree.ImportTree;
import com.sun.source.tree.LambdaExpressionTree;
import com.sun.source.tree.LineMap;
import com.sun.source.tree.LiteralTree;
import com.sun.source.tree.MemberReferenceTree;
import com.sun.source.tree.MethodInvocationTree;
import com.sun.source.tree.MethodTree;
import com.sun.source.tree.NewClassTree;
import com.sun.source.tree.SynchronizedTree;
import com.sun.source.tree.ThrowTree;
import com.sun.source.tree.Tree;
import com.sun.source.tree.TryTree;
import com.sun.source.tree.VariableTree;
import com.sun.source.util.JavacTask;
import com.sun.source.util.SourcePositions;
import com.sun.source.util.TreePath;
import com.sun.source.util.TreePathScanner;
import com.sun.source.util.Trees;
import java.io.File;
import java.io.IOException;
import java.util.HashMap;
import java.util.HashSet;
import java.util.List;
import java.util.Map;
import java.util.Set;
import java.util.TreeMap;
import java.util.TreeSet;
import javax.lang.model.element.Element;
import javax.lang.model.element.ElementKind;
import javax.lang.model.element.ExecutableElement;
import javax.lang.model.element.Modifier;
import javax.lang.model.element.TypeElement;
import javax.tools.JavaCompiler;
import javax.tools.StandardJavaFileManager;
import javax.tools.ToolProvider;

/** The rules of LANGUAGE.md that can be read off the text of the program, each by its number. */
public final class LanguageTest {
    private static final File PROGRAM = new File("src/main/java/PrintsGoOn.java");
    private static final int MOST_LINES = 60;
    private static final int MOST_PARAMETERS = 7;
    private static final int MOST_CLASSES = 12;
    private static final int MOST_FIELDS = 20;
    private static final int DEEPEST_CALLS = 8;
    private static final Set<String> LIBRARY = Set.of("java.lang.System.arraycopy", "java.util.Arrays.fill",
            "java.util.Arrays.copyOf", "java.util.Arrays.copyOfRange", "java.lang.Math.min", "java.lang.Math.max",
            "java.lang.Math.abs", "java.lang.Math.floorMod", "java.lang.Math.floorDiv", "java.lang.Integer.bitCount",
            "java.lang.Object.<init>");
    private static final Set<String> IMPORTS = Set.of("java.util.Arrays", "java.util.NoSuchElementException",
            "java.util.ArrayList", "java.util.List", "java.util.Iterator");
    private static final Set<String> THROWN = Set.of("IllegalStateException", "IllegalArgumentException",
            "IndexOutOfBoundsException", "ArithmeticException", "UnsupportedOperationException",
            "NoSuchElementException", "RuntimeException");

    private static final Checks CHECKS = new Checks("LanguageTest");

    public static void main(String[] args) throws IOException {
        JavaCompiler compiler = ToolProvider.getSystemJavaCompiler();
        try (StandardJavaFileManager files = compiler.getStandardFileManager(null, null, null)) {
            JavacTask task = (JavacTask) compiler.getTask(null, files, null, List.of("-proc:none"), null,
                    files.getJavaFileObjects(PROGRAM));
            CompilationUnitTree unit = task.parse().iterator().next();
            task.analyze();
            Reader reader = new Reader(Trees.instance(task), unit);
            reader.scan(unit, null);
            reader.classes();
            reader.depth();
        }
        CHECKS.end();
    }

    private static void rule(int number, String what, boolean kept) {
        CHECKS.due("rule " + number + ": " + what, kept, true);
    }

    private static final class Reader extends TreePathScanner<Void, Void> {
        private final Trees trees;
        private final CompilationUnitTree unit;
        private final Map<String, Set<String>> calls = new TreeMap<>();
        private final Map<String, Set<String>> names = new HashMap<>();
        private final Set<String> face = new HashSet<>();
        private int classes;
        private String method = "";
        private boolean inConstructor;

        Reader(Trees trees, CompilationUnitTree unit) {
            this.trees = trees;
            this.unit = unit;
        }

        private String place(Tree tree) {
            SourcePositions positions = trees.getSourcePositions();
            LineMap lines = unit.getLineMap();
            return " at line " + lines.getLineNumber(positions.getStartPosition(unit, tree));
        }

        private Element element(Tree tree) {
            return trees.getElement(TreePath.getPath(unit, tree));
        }

        @Override
        public Void visitImport(ImportTree tree, Void nothing) {
            rule(4, "import of " + tree.getQualifiedIdentifier(), IMPORTS.contains(tree.getQualifiedIdentifier().toString()));
            return super.visitImport(tree, nothing);
        }

        @Override
        public Void visitClass(ClassTree tree, Void nothing) {
            classes++;
            boolean inside = classes > 1;
            Set<Modifier> modifiers = tree.getModifiers().getFlags();
            rule(1, tree.getSimpleName() + " is of one of the two kinds of classes",
                    inside ? modifiers.contains(Modifier.STATIC) && !modifiers.contains(Modifier.PUBLIC)
                            : modifiers.contains(Modifier.PUBLIC) && modifiers.contains(Modifier.FINAL));
            int fields = 0;
            for (Tree member : tree.getMembers()) {
                if (member instanceof VariableTree field) {
                    fields += isStatic(field) ? 0 : 1;
                    rule(5, "static " + field.getName() + " is final",
                            !isStatic(field) || field.getModifiers().getFlags().contains(Modifier.FINAL));
                }
                rule(5, "no initialiser block" + place(member), !(member instanceof BlockTree));
            }
            rule(11, tree.getSimpleName() + " has " + fields + " fields", fields <= MOST_FIELDS);
            return super.visitClass(tree, nothing);
        }

        private static boolean isStatic(VariableTree field) {
            return field.getModifiers().getFlags().contains(Modifier.STATIC);
        }

        @Override
        public Void visitMethod(MethodTree tree, Void nothing) {
            ExecutableElement element = (ExecutableElement) element(tree);
            String before = method;
            method = named(element);
            inConstructor = element.getKind() == ElementKind.CONSTRUCTOR;
            calls.put(method, new TreeSet<>());
            LineMap lines = unit.getLineMap();
            SourcePositions positions = trees.getSourcePositions();
            long first = lines.getLineNumber(positions.getStartPosition(unit, tree));
            long last = lines.getLineNumber(Math.max(positions.getStartPosition(unit, tree), positions.getEndPosition(unit, tree)));
            rule(11, method + " has " + (last - first + 1) + " lines", last - first < MOST_LINES);
            rule(11, method + " has " + tree.getParameters().size() + " parameters",
                    tree.getParameters().size() <= MOST_PARAMETERS);
            String name = tree.getName().toString();
            rule(6, method + " is no equals, hashCode or toString", !Set.of("equals", "hashCode", "toString").contains(name));
            if (element.getModifiers().contains(Modifier.PUBLIC) && !inConstructor) {
                face.add(name);
            } else {
                names.computeIfAbsent(name, key -> new TreeSet<>()).add(method);
            }
            super.visitMethod(tree, nothing);
            method = before;
            inConstructor = false;
            return null;
        }

        private static String named(ExecutableElement element) {
            TypeElement type = (TypeElement) element.getEnclosingElement();
            return type.getQualifiedName() + "." + element.getSimpleName();
        }

        @Override
        public Void visitMethodInvocation(MethodInvocationTree tree, Void nothing) {
            called(element(tree.getMethodSelect()), tree);
            return super.visitMethodInvocation(tree, nothing);
        }

        @Override
        public Void visitNewClass(NewClassTree tree, Void nothing) {
            called(element(tree), tree);
            return super.visitNewClass(tree, nothing);
        }

        private void called(Element element, Tree tree) {
            String name = named((ExecutableElement) element);
            boolean own = name.startsWith("PrintsGoOn");
            String type = name.substring(name.lastIndexOf('.', name.lastIndexOf('.') - 1) + 1, name.lastIndexOf('.'));
            boolean thrown = name.endsWith(".<init>") && THROWN.contains(type);
            rule(4, name + place(tree), own || LIBRARY.contains(name) || thrown);
            if (own && !method.isEmpty()) {
                calls.get(method).add(name);
            }
        }

        @Override
        public Void visitThrow(ThrowTree tree, Void nothing) {
            boolean written = tree.getExpression() instanceof NewClassTree made
                    && THROWN.contains(made.getIdentifier().toString()) && made.getArguments().size() <= 1
                    && made.getArguments().stream().allMatch(text -> text instanceof LiteralTree);
            rule(6, "throw" + place(tree), written && !inConstructor);
            return super.visitThrow(tree, nothing);
        }

        @Override
        public Void visitTry(TryTree tree, Void nothing) {
            rule(6, "no finally, no resources" + place(tree), tree.getFinallyBlock() == null && tree.getResources().isEmpty());
            return super.visitTry(tree, nothing);
        }

        @Override
        public Void visitCatch(CatchTree tree, Void nothing) {
            rule(6, "nothing is caught" + place(tree), false);
            return super.visitCatch(tree, nothing);
        }

        @Override
        public Void visitBinary(BinaryTree tree, Void nothing) {
            rule(10, "no texts joined by +" + place(tree), !(tree.getKind() == Tree.Kind.PLUS && isText(tree)));
            return super.visitBinary(tree, nothing);
        }

        private boolean isText(Tree tree) {
            return trees.getTypeMirror(TreePath.getPath(unit, tree)).toString().equals("java.lang.String");
        }

        @Override
        public Void visitLambdaExpression(LambdaExpressionTree tree, Void nothing) {
            rule(2, "no lambda" + place(tree), false);
            return super.visitLambdaExpression(tree, nothing);
        }

        @Override
        public Void visitMemberReference(MemberReferenceTree tree, Void nothing) {
            rule(2, "no method reference" + place(tree), false);
            return super.visitMemberReference(tree, nothing);
        }

        @Override
        public Void visitSynchronized(SynchronizedTree tree, Void nothing) {
            rule(6, "no synchronized" + place(tree), false);
            return super.visitSynchronized(tree, nothing);
        }

        @Override
        public Void visitAssert(AssertTree tree, Void nothing) {
            rule(6, "no assert" + place(tree), false);
            return super.visitAssert(tree, nothing);
        }

        void classes() {
            rule(11, classes + " classes", classes <= MOST_CLASSES);
            rule(1, face.size() + " public methods", face.size() == 38);
            for (String name : face) {
                rule(1, "no other method is named " + name + ": " + names.get(name), !names.containsKey(name));
            }
        }

        /** How many calls stand within one another, those that can come back to themselves counted once. */
        void depth() {
            Map<String, Integer> depths = new HashMap<>();
            for (String name : calls.keySet()) {
                int depth = depth(name, depths, new HashSet<>());
                rule(11, name + " calls " + depth + " deep", depth <= DEEPEST_CALLS);
            }
        }

        private int depth(String name, Map<String, Integer> depths, Set<String> open) {
            if (!open.add(name)) {
                return 0;
            }
            int deepest = 0;
            for (String called : calls.getOrDefault(name, Set.of())) {
                if (!depths.containsKey(called) && !open.contains(called)) {
                    depths.put(called, depth(called, depths, open));
                }
                boolean recursion = reaches(called, name, new HashSet<>());
                deepest = Math.max(deepest, depths.getOrDefault(called, 0) + (recursion ? 0 : 1));
            }
            open.remove(name);
            return deepest;
        }

        private boolean reaches(String from, String to, Set<String> been) {
            if (from.equals(to)) {
                return true;
            }
            if (!been.add(from)) {
                return false;
            }
            for (String called : calls.getOrDefault(from, Set.of())) {
                if (reaches(called, to, been)) {
                    return true;
                }
            }
            return false;
        }
    }
}
