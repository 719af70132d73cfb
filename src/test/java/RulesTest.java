import com.sun.source.tree.AssertTree;
import com.sun.source.tree.ClassTree;
import com.sun.source.tree.CompilationUnitTree;
import com.sun.source.tree.LambdaExpressionTree;
import com.sun.source.tree.MemberReferenceTree;
import com.sun.source.tree.MethodInvocationTree;
import com.sun.source.tree.MethodTree;
import com.sun.source.tree.NewClassTree;
import com.sun.source.tree.SynchronizedTree;
import com.sun.source.tree.ThrowTree;
import com.sun.source.tree.Tree;
import com.sun.source.tree.TryTree;
import com.sun.source.tree.VariableTree;
import com.sun.source.util.JavacTask;
import com.sun.source.util.TreePath;
import com.sun.source.util.TreePathScanner;
import com.sun.source.util.Trees;
import java.io.File;
import java.io.IOException;
import java.util.List;
import java.util.Set;
import java.util.TreeSet;
import javax.lang.model.element.Element;
import javax.lang.model.element.ElementKind;
import javax.lang.model.element.Modifier;
import javax.tools.JavaCompiler;
import javax.tools.StandardJavaFileManager;
import javax.tools.ToolProvider;

/**
 * The program's source keeps to those rules of LANGUAGE.md that can be counted: 2 to 6 (what it is written with)
 * and 11 (how large its pieces are, and how deep calls go that are no recursion). The project's directory is
 * handed over as the system property root.
 */
public final class RulesTest {
    private static final int MOST_PARAMETERS = 7;
    private static final int MOST_LINES = 60;
    private static final int MOST_CLASSES = 12;
    private static final int MOST_FIELDS = 20;
    private static final int DEEPEST_CALLS = 8;
    private static final Set<String> LIBRARY = Set.of("java.lang.Math.max", "java.lang.Math.min",
            "java.util.Arrays.copyOf", "java.lang.Object.<init>",
            "java.lang.IllegalStateException.<init>", "java.lang.IllegalArgumentException.<init>");
    private static final Set<String> TYPES = Set.of("int", "long", "char", "boolean", "int[]", "char[]");

    public static void main(String[] args) throws IOException {
        File source = new File(System.getProperty("root"), "src/main/java/ConditionedProofs.java");
        JavaCompiler compiler = ToolProvider.getSystemJavaCompiler();
        StandardJavaFileManager files = compiler.getStandardFileManager(null, null, null);
        JavacTask task = (JavacTask) compiler.getTask(null, files, null, List.of("-proc:none"), null,
                files.getJavaFileObjects(source));
        CompilationUnitTree unit = task.parse().iterator().next();
        task.analyze();
        Inspection inspection = new Inspection(Trees.instance(task), unit);
        inspection.scan(unit, null);
        inspection.report();
        Report.finish();
    }

    private static void atMost(String what, long got, long most) {
        Report.due(what + " is " + got + ", at most " + most, got <= most ? 1 : 0, 1);
    }

    private static void never(String what) {
        Report.due(what, 1, 0);
    }

    private static final class Inspection extends TreePathScanner<Void, Void> {
        private final Trees trees;
        private final CompilationUnitTree unit;
        private final CallGraph calls = new CallGraph();
        private final Set<String> publicMethods = new TreeSet<>();
        private final Set<String> hiddenMethods = new TreeSet<>();
        private int classes;
        private String method = "";

        Inspection(Trees trees, CompilationUnitTree unit) {
            this.trees = trees;
            this.unit = unit;
        }

        void report() {
            atMost("the number of classes", classes, MOST_CLASSES);
            Report.due("methods that were looked at", publicMethods.size(), 13);
            for (String name : hiddenMethods) {
                Report.due("another method bears a public one's name: " + name, publicMethods.contains(name) ? 1 : 0, 0);
            }
            for (String face : calls.callers("ConditionedProofs.")) {
                List<String> chain = calls.longestChain(face);
                atMost("the depth of calls " + chain, chain.size(), DEEPEST_CALLS);
            }
        }

        @Override
        public Void visitClass(ClassTree tree, Void nothing) {
            classes++;
            Tree around = getCurrentPath().getParentPath().getLeaf();
            if (!(around instanceof ClassTree) && !(around instanceof CompilationUnitTree)) {
                never("a class in a method: " + tree.getSimpleName());
            }
            int fields = 0;
            for (Tree member : tree.getMembers()) {
                if (member.getKind() == Tree.Kind.BLOCK) {
                    never("an initialiser block in " + tree.getSimpleName());
                }
                if (member instanceof VariableTree field) {
                    fields += isConstant(field) ? 0 : 1;
                }
            }
            atMost("the number of fields of " + tree.getSimpleName(), fields, MOST_FIELDS);
            return super.visitClass(tree, nothing);
        }

        private static boolean isConstant(VariableTree field) {
            Set<Modifier> flags = field.getModifiers().getFlags();
            if (flags.contains(Modifier.STATIC)) {
                Report.due(field.getName() + " is final", flags.contains(Modifier.FINAL) ? 1 : 0, 1);
                Report.due(field.getName() + " is a constant", Set.of("int", "char").contains(
                        field.getType().toString()) && field.getInitializer() != null ? 1 : 0, 1);
            }
            return flags.contains(Modifier.STATIC);
        }

        @Override
        public Void visitMethod(MethodTree tree, Void nothing) {
            Element element = trees.getElement(getCurrentPath());
            method = nameOf(element);
            calls.addCaller(method);
            atMost("the number of parameters of " + method, tree.getParameters().size(), MOST_PARAMETERS);
            long start = trees.getSourcePositions().getStartPosition(unit, tree);
            long end = trees.getSourcePositions().getEndPosition(unit, tree);
            if (start >= 0 && end > start) {
                atMost("the number of lines of " + method,
                        unit.getLineMap().getLineNumber(end) - unit.getLineMap().getLineNumber(start) + 1, MOST_LINES);
            }
            if (element.getKind() == ElementKind.METHOD) {
                boolean open = element.getModifiers().contains(Modifier.PUBLIC);
                (open ? publicMethods : hiddenMethods).add(element.getSimpleName().toString());
            }
            return super.visitMethod(tree, nothing);
        }

        @Override
        public Void visitVariable(VariableTree tree, Void nothing) {
            String type = tree.getType().toString();
            boolean fine = TYPES.contains(type) || isOwnClass(type.replace("[]", ""));
            Report.due("the type of " + tree.getName() + " is " + type, fine ? 1 : 0, 1);
            return super.visitVariable(tree, nothing);
        }

        private boolean isOwnClass(String name) {
            for (Tree top : unit.getTypeDecls()) {
                for (Tree member : ((ClassTree) top).getMembers()) {
                    if (member instanceof ClassTree inside && inside.getSimpleName().contentEquals(name)) {
                        return true;
                    }
                }
            }
            return false;
        }

        @Override
        public Void visitMethodInvocation(MethodInvocationTree tree, Void nothing) {
            call(trees.getElement(new TreePath(getCurrentPath(), tree.getMethodSelect())));
            return super.visitMethodInvocation(tree, nothing);
        }

        @Override
        public Void visitNewClass(NewClassTree tree, Void nothing) {
            call(trees.getElement(getCurrentPath()));
            if (tree.getClassBody() != null) {
                never("an anonymous class in " + method);
            }
            return super.visitNewClass(tree, nothing);
        }

        private void call(Element called) {
            String name = nameOf(called);
            if (name.startsWith("ConditionedProofs.")) {
                calls.add(method, name);
            } else {
                Report.due("the library's " + name + " in " + method, LIBRARY.contains(name) ? 1 : 0, 1);
            }
        }

        /** No method of the program has two forms, so that its name tells it. */
        private static String nameOf(Element element) {
            return element.getEnclosingElement() + "." + element.getSimpleName();
        }

        @Override
        public Void visitThrow(ThrowTree tree, Void nothing) {
            boolean fresh = tree.getExpression() instanceof NewClassTree made
                    && made.getArguments().size() <= 1
                    && made.getArguments().stream().allMatch(a -> a.getKind() == Tree.Kind.STRING_LITERAL);
            Report.due("a throw of something new in " + method, fresh ? 1 : 0, 1);
            Report.due("a throw in a constructor", method.endsWith("<init>") ? 1 : 0, 0);
            return super.visitThrow(tree, nothing);
        }

        @Override
        public Void visitTry(TryTree tree, Void nothing) {
            never("a try in " + method);
            return super.visitTry(tree, nothing);
        }

        @Override
        public Void visitLambdaExpression(LambdaExpressionTree tree, Void nothing) {
            never("a lambda in " + method);
            return super.visitLambdaExpression(tree, nothing);
        }

        @Override
        public Void visitMemberReference(MemberReferenceTree tree, Void nothing) {
            never("a method reference in " + method);
            return super.visitMemberReference(tree, nothing);
        }

        @Override
        public Void visitAssert(AssertTree tree, Void nothing) {
            never("an assert in " + method);
            return super.visitAssert(tree, nothing);
        }

        @Override
        public Void visitSynchronized(SynchronizedTree tree, Void nothing) {
            never("a synchronized in " + method);
            return super.visitSynchronized(tree, nothing);
        }
    }
}
