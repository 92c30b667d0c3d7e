import com.sun.source.tree.AssertTree;
import com.sun.source.tree.BinaryTree;
import com.sun.source.tree.ClassTree;
import com.sun.source.tree.CompilationUnitTree;
import com.sun.source.tree.ImportTree;
import com.sun.source.tree.LambdaExpressionTree;
import com.sun.source.tree.MemberReferenceTree;
import com.sun.source.tree.MethodInvocationTree;
import com.sun.source.tree.MethodTree;
import com.sun.source.tree.NewClassTree;
import com.sun.source.tree.SynchronizedTree;
import com.sun.source.tree.ThrowTree;
import com.sun.source.tree.Tree;
import com.sun.source.tree.TryTree;
import com.sun.source.tree.VariableTree;
import com.sun.source.util.JavacTask;
import com.sun.source.util.TreePathScanner;
import com.sun.source.util.Trees;
import java.io.IOException;
import java.util.HashMap;
import java.util.HashSet;
import java.util.List;
import java.util.Map;
import java.util.Set;
import java.util.TreeSet;
import javax.lang.model.element.Element;
import javax.lang.model.element.ElementKind;
import javax.lang.model.element.Modifier;
import javax.tools.JavaCompiler;
import javax.tools.StandardJavaFileManager;
import javax.tools.ToolProvider;

/** The rules of LANGUAGE.md that can be told from the program's text. */
public final class LanguageTest {
    private static final String PROGRAM = "src/main/java/WireData.java";

    private static final int DEEPEST_CALL = 8;
    private static final int LONGEST_METHOD = 60;
    private static final int MOST_PARAMETERS = 7;
    private static final int MOST_CLASSES = 12;
    private static final int MOST_FIELDS = 20;

    private static final Set<String> IMPORTS = Set.of("java.util.NoSuchElementException");
    private static final Set<String> LIBRARY = Set.of("System.arraycopy", "Math.abs");
    private static final Set<String> THROWN = Set.of("IllegalStateException", "IllegalArgumentException",
            "IndexOutOfBoundsException", "ArithmeticException", "UnsupportedOperationException",
            "NoSuchElementException", "RuntimeException");
    private static final Set<String> STATIC_TYPES = Set.of("int", "long", "boolean", "char", "java.lang.String");
    private static final Set<String> STATIC_ARRAYS = Set.of("int[]", "long[]", "char[]", "byte[]");
    private static final Set<String> ENUM_TYPES = Set.of("int", "long", "boolean", "java.lang.String");

    public static void main(String[] args) throws IOException {
        JavaCompiler compiler = ToolProvider.getSystemJavaCompiler();
        try (StandardJavaFileManager files = compiler.getStandardFileManager(null, null, null)) {
            JavacTask task = (JavacTask) compiler.getTask(null, files, null, List.of("-proc:none"), null,
                    files.getJavaFileObjects(PROGRAM));
            CompilationUnitTree unit = task.parse().iterator().next();
            task.analyze();
            Program program = new Program(unit, Trees.instance(task));
            program.scan(unit, null);
            program.checkWhole();
        }
        Check.finish();
    }

    /** Checks each part of the program as it is met, and keeps what can be told only of the whole. */
    private static final class Program extends TreePathScanner<Void, Void> {
        private final CompilationUnitTree unit;
        private final Trees trees;
        private final Map<Element, Set<Element>> calls = new HashMap<>();
        private final Set<String> publicNames = new TreeSet<>();
        private final Set<String> otherNames = new TreeSet<>();
        private Element method = null;
        private int classes = 0;

        private Program(CompilationUnitTree unit, Trees trees) {
            this.unit = unit;
            this.trees = trees;
        }

        private void checkWhole() {
            Check.isTrue("no package", unit.getPackageName() == null);
            Check.same("classes at the top", unit.getTypeDecls().size(), 1);
            Check.isTrue("rule 11: at most 12 classes, has " + classes, classes <= MOST_CLASSES);
            for (String name : publicNames) {
                Check.isTrue("rule 1: no private method is named " + name, !otherNames.contains(name));
            }
            for (Element caller : calls.keySet()) {
                int depth = depthOf(caller, new HashSet<>());
                Check.isTrue("rule 11: " + caller + " goes at most 8 calls deep, itself counted; goes " + depth,
                        depth <= DEEPEST_CALL);
            }
        }

        private int depthOf(Element caller, Set<Element> open) {
            open.add(caller);
            int deepest = 0;
            for (Element called : calls.getOrDefault(caller, Set.of())) {
                boolean recursion = open.contains(called);
                Check.isTrue("rule 8: the program needs no recursion, as of " + called, !recursion);
                if (!recursion) {
                    deepest = Math.max(deepest, depthOf(called, open));
                }
            }
            open.remove(caller);
            return 1 + deepest;
        }

        private Element here() {
            return trees.getElement(getCurrentPath());
        }

        private void refuse(String rule, Tree tree) {
            Check.isTrue(rule + ": " + tree, false);
        }

        private long lineOf(long position) {
            return unit.getLineMap().getLineNumber(position);
        }

        private long linesOf(Tree tree) {
            long start = trees.getSourcePositions().getStartPosition(unit, tree);
            long end = trees.getSourcePositions().getEndPosition(unit, tree);
            // What the compiler itself adds has no end in the text.
            return end < 0 ? 0 : lineOf(end) - lineOf(start) + 1;
        }

        @Override
        public Void visitImport(ImportTree tree, Void none) {
            String name = tree.getQualifiedIdentifier().toString();
            Check.isTrue("rule 4: import of " + name, IMPORTS.contains(name));
            return super.visitImport(tree, none);
        }

        @Override
        public Void visitClass(ClassTree tree, Void none) {
            classes++;
            int fields = 0;
            for (Tree member : tree.getMembers()) {
                if (member.getKind() == Tree.Kind.VARIABLE
                        && !((VariableTree) member).getModifiers().getFlags().contains(Modifier.STATIC)) {
                    fields++;
                }
                Check.isTrue("rule 5: no initialiser block in " + tree.getSimpleName(),
                        member.getKind() != Tree.Kind.BLOCK);
            }
            Check.isTrue("rule 11: at most 20 fields in " + tree.getSimpleName(), fields <= MOST_FIELDS);
            return super.visitClass(tree, none);
        }

        @Override
        public Void visitMethod(MethodTree tree, Void none) {
            method = here();
            calls.put(method, new HashSet<>());
            boolean isPublic = tree.getModifiers().getFlags().contains(Modifier.PUBLIC);
            if (method.getKind() == ElementKind.METHOD) {
                (isPublic ? publicNames : otherNames).add(tree.getName().toString());
            }
            Check.isTrue("rule 11: lines of " + method, linesOf(tree) <= LONGEST_METHOD);
            Check.isTrue("rule 11: parameters of " + method, tree.getParameters().size() <= MOST_PARAMETERS);
            super.visitMethod(tree, none);
            method = null;
            return null;
        }

        @Override
        public Void visitVariable(VariableTree tree, Void none) {
            Element variable = here();
            if (variable.getKind() == ElementKind.FIELD) {
                String type = variable.asType().toString();
                if (variable.getModifiers().contains(Modifier.STATIC)) {
                    Check.isTrue("rule 5: static " + variable, variable.getModifiers().contains(Modifier.FINAL)
                            && (STATIC_TYPES.contains(type) || STATIC_ARRAYS.contains(type)
                            && tree.getInitializer().getKind() == Tree.Kind.NEW_ARRAY));
                } else if (variable.getEnclosingElement().getKind() == ElementKind.ENUM) {
                    Check.isTrue("rule 2: field of an enum " + variable, ENUM_TYPES.contains(type));
                }
            }
            return super.visitVariable(tree, none);
        }

        @Override
        public Void visitMethodInvocation(MethodInvocationTree tree, Void none) {
            keepCall(here());
            return super.visitMethodInvocation(tree, none);
        }

        @Override
        public Void visitNewClass(NewClassTree tree, Void none) {
            keepCall(here());
            return super.visitNewClass(tree, none);
        }

        private void keepCall(Element called) {
            Element owner = called.getEnclosingElement();
            if (owner.toString().startsWith("WireData")) {
                // A constant of an enum is made outside of every method.
                if (method != null) {
                    calls.get(method).add(called);
                }
            } else if (called.getKind() == ElementKind.CONSTRUCTOR) {
                String name = owner.getSimpleName().toString();
                // Constructors call those of Object and Enum by themselves.
                Check.isTrue("rule 4: new " + name,
                        THROWN.contains(name) || name.equals("Object") || name.equals("Enum"));
            } else {
                String name = owner.getSimpleName() + "." + called.getSimpleName();
                // The compiler writes an enum's valueOf, which calls that of Enum.
                Check.isTrue("rule 4: call of " + name, LIBRARY.contains(name) || name.equals("Enum.valueOf"));
            }
        }

        @Override
        public Void visitThrow(ThrowTree tree, Void none) {
            Check.isTrue("rule 6: no throw in a constructor", method.getKind() != ElementKind.CONSTRUCTOR);
            boolean isNew = tree.getExpression() instanceof NewClassTree;
            Check.isTrue("rule 6: " + tree, isNew && isWrittenOut((NewClassTree) tree.getExpression()));
            return super.visitThrow(tree, none);
        }

        private static boolean isWrittenOut(NewClassTree thrown) {
            int count = thrown.getArguments().size();
            return THROWN.contains(thrown.getIdentifier().toString())
                    && (count == 0 || count == 1 && thrown.getArguments().get(0).getKind() == Tree.Kind.STRING_LITERAL);
        }

        @Override
        public Void visitBinary(BinaryTree tree, Void none) {
            String type = trees.getTypeMirror(getCurrentPath()).toString();
            Check.isTrue("rule 10: no text is joined by +: " + tree, !type.equals("java.lang.String"));
            return super.visitBinary(tree, none);
        }

        @Override
        public Void visitLambdaExpression(LambdaExpressionTree tree, Void none) {
            refuse("rule 2: no lambda", tree);
            return super.visitLambdaExpression(tree, none);
        }

        @Override
        public Void visitMemberReference(MemberReferenceTree tree, Void none) {
            refuse("rule 2: no method reference", tree);
            return super.visitMemberReference(tree, none);
        }

        @Override
        public Void visitTry(TryTree tree, Void none) {
            refuse("rule 6: the program needs no try", tree);
            return super.visitTry(tree, none);
        }

        @Override
        public Void visitSynchronized(SynchronizedTree tree, Void none) {
            refuse("rule 6: no synchronized", tree);
            return super.visitSynchronized(tree, none);
        }

        @Override
        public Void visitAssert(AssertTree tree, Void none) {
            refuse("rule 6: no assert", tree);
            return super.visitAssert(tree, none);
        }
    }
}
