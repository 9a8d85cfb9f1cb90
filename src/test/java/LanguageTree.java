import com.sun.source.tree.AssertTree;
import com.sun.source.tree.BinaryTree;
import com.sun.source.tree.ClassTree;
import com.sun.source.tree.CompilationUnitTree;
import com.sun.source.tree.CompoundAssignmentTree;
import com.sun.source.tree.EnhancedForLoopTree;
import com.sun.source.tree.ExpressionTree;
import com.sun.source.tree.LambdaExpressionTree;
import com.sun.source.tree.MemberReferenceTree;
import com.sun.source.tree.MethodInvocationTree;
import com.sun.source.tree.MethodTree;
import com.sun.source.tree.NewArrayTree;
import com.sun.source.tree.NewClassTree;
import com.sun.source.tree.SynchronizedTree;
import com.sun.source.tree.ThrowTree;
import com.sun.source.tree.Tree;
import com.sun.source.tree.TryTree;
import com.sun.source.tree.TypeCastTree;
import com.sun.source.tree.VariableTree;
import com.sun.source.util.JavacTask;
import com.sun.source.util.TreePath;
import com.sun.source.util.TreePathScanner;
import com.sun.source.util.Trees;
import java.nio.file.Path;
import java.util.HashSet;
import java.util.LinkedHashMap;
import java.util.List;
import java.util.Map;
import java.util.Set;
import java.util.TreeSet;
import javax.lang.model.element.Element;
import javax.lang.model.element.ElementKind;
import javax.lang.model.element.ExecutableElement;
import javax.lang.model.element.Modifier;
import javax.lang.model.type.ArrayType;
import javax.lang.model.type.TypeKind;
import javax.lang.model.type.TypeMirror;
import javax.tools.JavaCompiler;
import javax.tools.StandardJavaFileManager;
import javax.tools.ToolProvider;

/**
 * The rules of LANGUAGE.md that need to know what a name stands for: which library is called, what types there are,
 * who calls whom and how deep, where objects are made. Read from the compiler's own tree. Run in the project's folder.
 */
public final class LanguageTree {
    private static final Path SOURCE = Path.of("src/main/java/PretzelProof.java");
    private static final int DEEPEST = 8;
    /** Of what rule 4 lists no more than the class has needed so far. */
    private static final Set<String> LIBRARY = Set.of(
        "java.lang.Math.min", "java.lang.Math.max", "java.lang.Integer.bitCount", "java.lang.System.arraycopy", "java.util.Arrays.fill");
    private static int wrong = 0;

    public static void main(String[] args) throws Exception {
        JavaCompiler compiler = ToolProvider.getSystemJavaCompiler();
        try (StandardJavaFileManager files = compiler.getStandardFileManager(null, null, null)) {
            JavacTask task = (JavacTask) compiler.getTask(null, files, null, List.of("--release", "17"), null,
                files.getJavaFileObjects(SOURCE));
            Iterable<? extends CompilationUnitTree> units = task.parse();
            task.analyze();
            Reading reading = new Reading(Trees.instance(task));
            for (CompilationUnitTree unit : units) {
                reading.scan(unit, null);
            }
            reading.depths();
        }
        System.out.println(wrong == 0 ? "the rules are kept" : wrong + " rules are broken");
        if (wrong != 0) {
            System.exit(1);
        }
    }

    private static void rule(boolean kept, String what) {
        if (!kept) {
            wrong++;
            System.out.println("broken: " + what);
        }
    }

    private static final class Reading extends TreePathScanner<Void, Void> {
        final Trees trees;
        final Map<ExecutableElement, Set<ExecutableElement>> calls = new LinkedHashMap<>();
        ExecutableElement within;

        Reading(Trees of) {
            trees = of;
        }

        private static boolean isOwn(Element element) {
            Element outer = element;
            while (outer.getEnclosingElement() != null && outer.getEnclosingElement().getKind() != ElementKind.PACKAGE) {
                outer = outer.getEnclosingElement();
            }
            return outer.getSimpleName().contentEquals("PretzelProof");
        }

        private Element elementOf(Tree tree) {
            return trees.getElement(new TreePath(getCurrentPath(), tree));
        }

        private TypeMirror typeOf(Tree tree) {
            return trees.getTypeMirror(new TreePath(getCurrentPath(), tree));
        }

        private static boolean isNumber(TypeMirror type) {
            return type.getKind().isPrimitive() && type.getKind() != TypeKind.BOOLEAN;
        }

        private boolean isAllowed(TypeMirror type) {
            if (type instanceof ArrayType row) {
                TypeMirror of = row.getComponentType();
                return of instanceof ArrayType inner ? isNumber(inner.getComponentType()) : isAllowed(of);
            }
            String name = type.toString();
            return type.getKind().isPrimitive() || type.getKind() == TypeKind.VOID || name.startsWith("PretzelProof")
                || name.equals("java.lang.String") || name.equals("java.lang.StringBuilder");
        }

        @Override
        public Void visitClass(ClassTree tree, Void none) {
            Element element = trees.getElement(getCurrentPath());
            Tree.Kind around = getCurrentPath().getParentPath().getLeaf().getKind();
            boolean outer = around == Tree.Kind.COMPILATION_UNIT;
            rule(outer || around == Tree.Kind.CLASS, "2: a class in a method: " + tree.getSimpleName());
            rule(outer || element.getModifiers().contains(Modifier.STATIC), "2: not static: " + tree.getSimpleName());
            for (Tree member : tree.getMembers()) {
                rule(member.getKind() != Tree.Kind.BLOCK, "5: an initialiser block in " + tree.getSimpleName());
            }
            return super.visitClass(tree, none);
        }

        @Override
        public Void visitMethod(MethodTree tree, Void none) {
            within = (ExecutableElement) trees.getElement(getCurrentPath());
            calls.put(within, new HashSet<>());
            rule(tree.getParameters().size() <= 7, "11: seven parameters: " + within);
            rule(tree.getThrows().isEmpty(), "6: throws: " + within);
            rule(isAllowed(within.getReturnType()), "3: the type of " + within);
            super.visitMethod(tree, none);
            within = null;
            return null;
        }

        @Override
        public Void visitVariable(VariableTree tree, Void none) {
            Element element = trees.getElement(getCurrentPath());
            rule(isAllowed(element.asType()), "3: the type of " + tree);
            boolean fixed = element.getModifiers().contains(Modifier.STATIC);
            rule(!fixed || element.getModifiers().contains(Modifier.FINAL), "5: static and not final: " + tree);
            return super.visitVariable(tree, none);
        }

        @Override
        public Void visitMethodInvocation(MethodInvocationTree tree, Void none) {
            Element called = elementOf(tree.getMethodSelect());
            boolean ofObject = called.getEnclosingElement().toString().equals("java.lang.Object");
            if (called.getKind() == ElementKind.CONSTRUCTOR && ofObject) {
                return super.visitMethodInvocation(tree, none);
            }
            if (isOwn(called)) {
                note((ExecutableElement) called);
            } else {
                String name = called.getEnclosingElement() + "." + called.getSimpleName();
                rule(LIBRARY.contains(name), "4: " + name + " is called: " + tree);
            }
            return super.visitMethodInvocation(tree, none);
        }

        @Override
        public Void visitNewClass(NewClassTree tree, Void none) {
            rule(tree.getClassBody() == null, "2: a class without a name: " + tree);
            rule(isOwn(trees.getElement(getCurrentPath())), "4: an object of the library is made: " + tree);
            made(tree);
            note((ExecutableElement) trees.getElement(getCurrentPath()));
            return super.visitNewClass(tree, none);
        }

        @Override
        public Void visitNewArray(NewArrayTree tree, Void none) {
            made(tree);
            return super.visitNewArray(tree, none);
        }

        /** The room is small, so what is needed is made once: README.md says that no call makes an object. */
        private void made(Tree tree) {
            boolean inConstructor = within != null && within.getKind() == ElementKind.CONSTRUCTOR;
            rule(inConstructor, "12: made outside of a constructor: " + tree);
        }

        private void note(ExecutableElement called) {
            if (within != null) {
                calls.get(within).add(called);
            }
        }

        @Override
        public Void visitBinary(BinaryTree tree, Void none) {
            noText(tree.getLeftOperand(), tree);
            noText(tree.getRightOperand(), tree);
            return super.visitBinary(tree, none);
        }

        @Override
        public Void visitCompoundAssignment(CompoundAssignmentTree tree, Void none) {
            noText(tree.getVariable(), tree);
            return super.visitCompoundAssignment(tree, none);
        }

        private void noText(ExpressionTree operand, Tree tree) {
            rule(!typeOf(operand).toString().equals("java.lang.String"), "6, 10: a text joined or compared by a sign: " + tree);
        }

        @Override
        public Void visitTypeCast(TypeCastTree tree, Void none) {
            rule(typeOf(tree.getType()).getKind().isPrimitive(), "6: a cast of an object: " + tree);
            return super.visitTypeCast(tree, none);
        }

        @Override
        public Void visitEnhancedForLoop(EnhancedForLoopTree tree, Void none) {
            rule(typeOf(tree.getExpression()).getKind() == TypeKind.ARRAY, "12: an iterator is made: " + tree.getExpression());
            return super.visitEnhancedForLoop(tree, none);
        }

        @Override
        public Void visitLambdaExpression(LambdaExpressionTree tree, Void none) {
            rule(false, "2: " + tree);
            return super.visitLambdaExpression(tree, none);
        }

        @Override
        public Void visitMemberReference(MemberReferenceTree tree, Void none) {
            rule(false, "2: " + tree);
            return super.visitMemberReference(tree, none);
        }

        @Override
        public Void visitThrow(ThrowTree tree, Void none) {
            rule(false, "6: " + tree);
            return super.visitThrow(tree, none);
        }

        @Override
        public Void visitTry(TryTree tree, Void none) {
            rule(false, "6: " + tree);
            return super.visitTry(tree, none);
        }

        @Override
        public Void visitSynchronized(SynchronizedTree tree, Void none) {
            rule(false, "6: " + tree);
            return super.visitSynchronized(tree, none);
        }

        @Override
        public Void visitAssert(AssertTree tree, Void none) {
            rule(false, "6: " + tree);
            return super.visitAssert(tree, none);
        }

        /** How many calls of own methods can stand open at once: with none that comes back to itself, that has an end. */
        void depths() {
            rule(!calls.isEmpty(), "the class was read");
            Map<ExecutableElement, Integer> known = new LinkedHashMap<>();
            Set<String> tooDeep = new TreeSet<>();
            for (ExecutableElement method : calls.keySet()) {
                if (depthOf(method, new HashSet<>(), known) > DEEPEST) {
                    tooDeep.add(method.toString());
                }
            }
            rule(tooDeep.isEmpty(), "11: more than " + DEEPEST + " calls deep: " + tooDeep);
        }

        private int depthOf(ExecutableElement method, Set<ExecutableElement> open, Map<ExecutableElement, Integer> known) {
            if (known.containsKey(method)) {
                return known.get(method);
            }
            rule(open.add(method), "8: calls itself: " + method);
            int deepest = 0;
            for (ExecutableElement called : calls.getOrDefault(method, Set.of())) {
                if (!open.contains(called)) {
                    deepest = Math.max(deepest, depthOf(called, open, known));
                } else {
                    rule(false, "8: " + method + " comes back to " + called);
                }
            }
            open.remove(method);
            known.put(method, deepest + 1);
            return deepest + 1;
        }
    }
}
