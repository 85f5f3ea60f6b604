import com.sun.source.tree.ArrayTypeTree;
import com.sun.source.tree.AssertTree;
import com.sun.source.tree.BinaryTree;
import com.sun.source.tree.BlockTree;
import com.sun.source.tree.ClassTree;
import com.sun.source.tree.CompilationUnitTree;
import com.sun.source.tree.LambdaExpressionTree;
import com.sun.source.tree.LiteralTree;
import com.sun.source.tree.MemberReferenceTree;
import com.sun.source.tree.MethodInvocationTree;
import com.sun.source.tree.MethodTree;
import com.sun.source.tree.NewClassTree;
import com.sun.source.tree.SynchronizedTree;
import com.sun.source.tree.ThrowTree;
import com.sun.source.tree.Tree;
import com.sun.source.tree.TryTree;
import com.sun.source.tree.VariableTree;
import com.sun.source.util.JavacTask;
import com.sun.source.util.TreePathScanner;
import java.nio.file.Path;
import java.util.HashMap;
import java.util.HashSet;
import java.util.List;
import java.util.Map;
import java.util.Set;
import javax.lang.model.element.Modifier;
import javax.tools.JavaCompiler;
import javax.tools.StandardJavaFileManager;
import javax.tools.ToolProvider;

/** Those rules of LANGUAGE.md that can be read off the source of the class. */
public final class LanguageTest {
    private static final String FILE = "src/main/java/RowsOnlyPrimes.java";
    private static final String FACE = "RowsOnlyPrimes";
    private static final int MOST_LINES = 60;
    private static final int MOST_PARAMETERS = 7;
    private static final int MOST_CLASSES = 12;
    private static final int MOST_FIELDS = 20;
    private static final int DEEPEST_CALLS = 8;
    private static final Due due = new Due();

    public static void main(String[] args) throws java.io.IOException {
        JavaCompiler javac = ToolProvider.getSystemJavaCompiler();
        try (StandardJavaFileManager files = javac.getStandardFileManager(null, null, null)) {
            JavacTask task = (JavacTask) javac.getTask(null, files, null, List.of("-proc:none"), null,
                files.getJavaFileObjects(Path.of(FILE)));
            CompilationUnitTree unit = task.parse().iterator().next();
            Reader reader = new Reader(unit);
            reader.scan(unit, null);
            reader.judge();
        }
        due.end("LanguageTest");
    }

    private static final class Reader extends TreePathScanner<Void, Void> {
        private final CompilationUnitTree unit;
        private final Set<String> faceNames = new HashSet<>();
        private final Map<String, Set<String>> calls = new HashMap<>();
        private final Set<String> privateNames = new HashSet<>();
        private String method = "";
        private int classes;

        Reader(CompilationUnitTree unit) {
            this.unit = unit;
        }

        @Override
        public Void visitCompilationUnit(CompilationUnitTree it, Void v) {
            due.is("rule 1: no package", it.getPackageName() == null ? 0 : 1, 0);
            due.is("rule 1: one type", it.getTypeDecls().size(), 1);
            it.getImports().forEach(i -> due.is("rule 4: " + i, List.of("java.util.Arrays", "java.util.ArrayList",
                "java.util.List").contains(i.getQualifiedIdentifier().toString()) ? 0 : 1, 0));
            return super.visitCompilationUnit(it, v);
        }

        @Override
        public Void visitClass(ClassTree it, Void v) {
            classes++;
            boolean face = it.getSimpleName().contentEquals(FACE);
            Set<Modifier> flags = it.getModifiers().getFlags();
            boolean hidden = !flags.contains(Modifier.PUBLIC) && !flags.contains(Modifier.PROTECTED);
            boolean free = flags.contains(Modifier.STATIC) || it.getKind() != Tree.Kind.CLASS;
            due.is("rule 1, 2: " + it.getSimpleName(), (face ? flags.containsAll(Set.of(Modifier.PUBLIC, Modifier.FINAL))
                : hidden && free) ? 0 : 1, 0);
            due.is("rule 2: a class inside a method: " + it.getSimpleName(), method.isEmpty() ? 0 : 1, 0);
            long fields = it.getMembers().stream().filter(m -> m instanceof VariableTree f
                && !f.getModifiers().getFlags().contains(Modifier.STATIC)).count();
            due.is("rule 11: fields of " + it.getSimpleName(), fields <= MOST_FIELDS ? 0 : fields, 0);
            it.getMembers().forEach(m -> member(it, face, m));
            return super.visitClass(it, v);
        }

        private void member(ClassTree type, boolean face, Tree m) {
            if (m instanceof VariableTree f && f.getModifiers().getFlags().contains(Modifier.STATIC)) {
                due.is("rule 5: " + f.getName(), f.getModifiers().getFlags().contains(Modifier.FINAL) ? 0 : 1, 0);
            }
            if (m instanceof VariableTree f && face) {
                boolean open = f.getModifiers().getFlags().contains(Modifier.PUBLIC);
                due.is("rule 1: " + f.getName(), open == f.getName().contentEquals("NONE")
                    && (open || f.getModifiers().getFlags().contains(Modifier.PRIVATE)) ? 0 : 1, 0);
            }
            if (m instanceof MethodTree f && face) {
                boolean open = f.getModifiers().getFlags().contains(Modifier.PUBLIC);
                due.is("rule 1: " + f.getName(), open || f.getModifiers().getFlags().contains(Modifier.PRIVATE) ? 0 : 1, 0);
                if (open && !f.getName().contentEquals("<init>")) {
                    faceNames.add(f.getName().toString());
                }
            }
        }

        @Override
        public Void visitMethod(MethodTree it, Void v) {
            String outer = method;
            ClassTree type = (ClassTree) getCurrentPath().getParentPath().getLeaf();
            method = type.getSimpleName() + "." + it.getName();
            calls.computeIfAbsent(method, k -> new HashSet<>());
            if (it.getModifiers().getFlags().contains(Modifier.PRIVATE)) {
                privateNames.add(it.getName().toString());
            }
            due.is("rule 6: " + method, List.of("equals", "hashCode", "toString").contains(it.getName().toString()) ? 1 : 0, 0);
            due.is("rule 11: parameters of " + method, it.getParameters().size() <= MOST_PARAMETERS ? 0 : 1, 0);
            long lines = it.getBody() == null ? 1 : it.toString().lines().count();
            due.is("rule 11: lines of " + method, lines <= MOST_LINES ? 0 : lines, 0);
            super.visitMethod(it, v);
            method = outer;
            return null;
        }

        @Override
        public Void visitMethodInvocation(MethodInvocationTree it, Void v) {
            String called = it.getMethodSelect().toString();
            calls.computeIfAbsent(method, k -> new HashSet<>()).add(called.substring(called.lastIndexOf('.') + 1));
            due.is("rule 4: " + called, mayCall(called) ? 0 : 1, 0);
            return super.visitMethodInvocation(it, v);
        }

        private static boolean mayCall(String called) {
            if (called.startsWith("System.") || called.startsWith("Arrays.")) {
                return List.of("System.arraycopy", "Arrays.copyOf", "Arrays.copyOfRange", "Arrays.fill").contains(called);
            }
            return !called.endsWith("Exact") && !called.startsWith("java.");
        }

        @Override
        public Void visitNewClass(NewClassTree it, Void v) {
            due.is("rule 2: a class without a name: " + it, it.getClassBody() == null ? 0 : 1, 0);
            return super.visitNewClass(it, v);
        }

        @Override
        public Void visitBlock(BlockTree it, Void v) {
            due.is("rule 5: a static initialiser block", it.isStatic() ? 1 : 0, 0);
            return super.visitBlock(it, v);
        }

        @Override
        public Void visitBinary(BinaryTree it, Void v) {
            boolean joined = it.getKind() == Tree.Kind.PLUS && (it.getLeftOperand().getKind() == Tree.Kind.STRING_LITERAL
                || it.getRightOperand().getKind() == Tree.Kind.STRING_LITERAL);
            due.is("rule 10: " + it, joined ? 1 : 0, 0);
            return super.visitBinary(it, v);
        }

        @Override
        public Void visitArrayType(ArrayTypeTree it, Void v) {
            boolean deep = it.getType() instanceof ArrayTypeTree inner && inner.getType() instanceof ArrayTypeTree;
            due.is("rule 3: " + it, deep ? 1 : 0, 0);
            return super.visitArrayType(it, v);
        }

        @Override
        public Void visitLiteral(LiteralTree it, Void v) {
            if (it.getValue() instanceof String text) {
                due.is("rule 4: signs of a constant: " + it, text.chars().allMatch(c -> c >= 1 && c <= 127) ? 0 : 1, 0);
            }
            return super.visitLiteral(it, v);
        }

        @Override
        public Void visitTry(TryTree it, Void v) {
            return never("rule 6: try");
        }

        @Override
        public Void visitThrow(ThrowTree it, Void v) {
            return never("rule 6: throw");
        }

        @Override
        public Void visitSynchronized(SynchronizedTree it, Void v) {
            return never("rule 6: synchronized");
        }

        @Override
        public Void visitAssert(AssertTree it, Void v) {
            return never("rule 6: assert");
        }

        @Override
        public Void visitLambdaExpression(LambdaExpressionTree it, Void v) {
            return never("rule 2: lambda");
        }

        @Override
        public Void visitMemberReference(MemberReferenceTree it, Void v) {
            return never("rule 2: method reference");
        }

        private Void never(String rule) {
            due.is(rule + " in " + method + " of " + unit.getSourceFile().getName(), 1, 0);
            return null;
        }

        void judge() {
            due.is("rule 11: classes", classes <= MOST_CLASSES ? 0 : classes, 0);
            for (String name : privateNames) {
                due.is("rule 1: a private method bears the name of a public one: " + name, faceNames.contains(name) ? 1 : 0, 0);
            }
            for (String each : calls.keySet()) {
                int depth = depth(each, new HashSet<>());
                due.is("rule 8, 11: calls from " + each, depth <= DEEPEST_CALLS ? 0 : depth, 0);
            }
        }

        // by the name alone: two methods of one name count as one another, which errs to the strict side
        private int depth(String from, Set<String> open) {
            if (!open.add(from)) {
                return 1000;
            }
            int deepest = 0;
            for (String called : calls.get(from)) {
                for (String to : calls.keySet()) {
                    if (to.endsWith("." + called)) {
                        deepest = Math.max(deepest, depth(to, open));
                    }
                }
            }
            open.remove(from);
            return deepest + 1;
        }
    }
}
