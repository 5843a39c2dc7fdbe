import com.sun.source.tree.AssignmentTree;
import com.sun.source.tree.BinaryTree;
import com.sun.source.tree.ClassTree;
import com.sun.source.tree.CompilationUnitTree;
import com.sun.source.tree.DoWhileLoopTree;
import com.sun.source.tree.EnhancedForLoopTree;
import com.sun.source.tree.ForLoopTree;
import com.sun.source.tree.InstanceOfTree;
import com.sun.source.tree.LambdaExpressionTree;
import com.sun.source.tree.LiteralTree;
import com.sun.source.tree.MemberReferenceTree;
import com.sun.source.tree.MemberSelectTree;
import com.sun.source.tree.MethodInvocationTree;
import com.sun.source.tree.MethodTree;
import com.sun.source.tree.NewArrayTree;
import com.sun.source.tree.NewClassTree;
import com.sun.source.tree.ThrowTree;
import com.sun.source.tree.Tree;
import com.sun.source.tree.TryTree;
import com.sun.source.tree.TypeCastTree;
import com.sun.source.tree.VariableTree;
import com.sun.source.tree.WhileLoopTree;
import com.sun.source.util.JavacTask;
import com.sun.source.util.TreePath;
import com.sun.source.util.TreePathScanner;
import com.sun.source.util.Trees;
import java.io.IOException;
import java.nio.file.Path;
import java.util.HashSet;
import java.util.List;
import java.util.Map;
import java.util.Set;
import java.util.TreeMap;
import java.util.TreeSet;
import javax.lang.model.element.Element;
import javax.lang.model.element.ElementKind;
import javax.lang.model.element.ExecutableElement;
import javax.lang.model.element.Modifier;
import javax.lang.model.element.VariableElement;
import javax.lang.model.type.ArrayType;
import javax.lang.model.type.TypeKind;
import javax.lang.model.type.TypeMirror;
import javax.tools.JavaCompiler;
import javax.tools.StandardJavaFileManager;
import javax.tools.ToolProvider;

/** The rules of LANGUAGE.md that the compiler's own trees can tell: types, library, loops, calls. */
public final class RulesTest {
    private static final String SOURCE = "src/main/java/CoatBetween.java";
    /** A subset of rule 4: what the class has needed so far. */
    private static final Set<String> LIBRARY = Set.of("java.lang.Math.max(int,int)", "java.lang.Math.min(int,int)",
        "java.lang.Math.abs(int)", "java.lang.Integer.bitCount(int)",
        "java.lang.System.arraycopy(java.lang.Object,int,java.lang.Object,int,int)");
    /** Those of which a look has told that they stand behind their test. */
    private static final Set<String> DIVISIONS = Set.of("row.sum() / size", "upperNumber / divisor",
        "lowerNumber / divisor", "greater % lesser", "number % CERTAIN");
    private static final int DEEPEST = 8;

    /** Who calls whom; a constructor, and what the fields are made with, go by the class. */
    private static final Map<String, Set<String>> CALLS = new TreeMap<>();

    public static void main(String[] args) throws IOException {
        JavaCompiler compiler = ToolProvider.getSystemJavaCompiler();
        Check.due("a compiler is there", compiler == null ? 0 : 1, 1);
        if (compiler != null) {
            try (StandardJavaFileManager files = compiler.getStandardFileManager(null, null, null)) {
                look((JavacTask) compiler.getTask(null, files, null, List.of("--release", "17", "-proc:none"), null,
                    files.getJavaFileObjects(Path.of(SOURCE))));
            }
        }
        callsAreNotDeep();
        Check.end();
    }

    private static void look(JavacTask task) throws IOException {
        Iterable<? extends CompilationUnitTree> units = task.parse();
        task.analyze();
        for (CompilationUnitTree unit : units) {
            Check.due("imports", unit.getImports().size(), 0);
            Check.due("a package line", unit.getPackageName() == null ? 0 : 1, 0);
            Check.due("classes in the file, outside", unit.getTypeDecls().size(), 1);
            new Look(Trees.instance(task)).scan(unit, null);
        }
    }

    private static void callsAreNotDeep() {
        Check.due("methods were found", CALLS.size() > 100 ? 1 : 0, 1);
        int deepest = 0;
        for (String method : CALLS.keySet()) {
            deepest = Math.max(deepest, depth(method, new HashSet<>(), new TreeMap<>()));
        }
        System.out.println("the deepest call of own methods stands on " + deepest);
        Check.due("calls, " + DEEPEST + " deep at most", Math.max(DEEPEST, deepest), DEEPEST);
    }

    private static int depth(String method, Set<String> open, Map<String, Integer> known) {
        if (!CALLS.containsKey(method)) {
            return 0;
        }
        if (known.containsKey(method)) {
            return known.get(method);
        }
        Check.due(method + " calls itself", open.add(method) ? 0 : 1, 0);
        int deepest = 0;
        if (open.size() < 100) {
            for (String called : CALLS.get(method)) {
                deepest = Math.max(deepest, open.contains(called) ? 100 : depth(called, open, known));
            }
        }
        open.remove(method);
        known.put(method, deepest + 1);
        return deepest + 1;
    }

    /** Goes through the whole file and tells what breaks a rule. */
    private static final class Look extends TreePathScanner<Void, Void> {
        private final Trees trees;
        private String method = "";
        private int loops = 0;

        Look(Trees trees) {
            this.trees = trees;
        }

        private void never(String what, Tree tree) {
            Check.due(what + ": " + tree, 1, 0);
        }

        private Element element() {
            return trees.getElement(getCurrentPath());
        }

        private TypeMirror typeOf(Tree tree) {
            return trees.getTypeMirror(trees.getPath(getCurrentPath().getCompilationUnit(), tree));
        }

        private static boolean isOwn(Element element) {
            for (Element around = element; around != null; around = around.getEnclosingElement()) {
                if (around.toString().equals("CoatBetween")) {
                    return true;
                }
            }
            return false;
        }

        private static String nameOf(Element element) {
            return element.getEnclosingElement() + "." + element;
        }

        private static boolean isNumber(TypeMirror type) {
            return type.getKind().isPrimitive() && type.getKind() != TypeKind.BOOLEAN;
        }

        /** Rule 3, without the lists and texts, which the class doesn't use. */
        private static boolean isAllowed(TypeMirror type) {
            if (type.getKind() == TypeKind.ARRAY) {
                TypeMirror of = ((ArrayType) type).getComponentType();
                return of.getKind() == TypeKind.ARRAY ? isNumber(((ArrayType) of).getComponentType()) : isAllowed(of);
            }
            boolean isFraction = type.getKind() == TypeKind.DOUBLE || type.getKind() == TypeKind.FLOAT;
            return type.getKind() == TypeKind.VOID || type.getKind().isPrimitive() && !isFraction
                || type.toString().startsWith("CoatBetween.");
        }

        @Override
        public Void visitClass(ClassTree tree, Void none) {
            Element element = element();
            String before = method;
            method = element + ".<made>";
            CALLS.computeIfAbsent(method, name -> new TreeSet<>());
            boolean isOuter = element.getEnclosingElement().getKind() == ElementKind.PACKAGE;
            if (!isOuter) {
                Set<Modifier> modifiers = element.getModifiers();
                Check.due(element + " is static", modifiers.contains(Modifier.STATIC) ? 1 : 0, 1);
                boolean isMember = element.getEnclosingElement().getKind() == ElementKind.CLASS;
                Check.due(element + " is in the outer class", isMember ? 1 : 0, 1);
                Check.due(element + " is private", modifiers.contains(Modifier.PRIVATE) ? 1 : 0, 1);
                Check.due(element + " extends nothing", tree.getExtendsClause() == null ? 1 : 0, 1);
            }
            super.visitClass(tree, none);
            method = before;
            return null;
        }

        @Override
        public Void visitMethod(MethodTree tree, Void none) {
            ExecutableElement element = (ExecutableElement) element();
            String before = method;
            boolean isMaking = element.getKind() == ElementKind.CONSTRUCTOR;
            method = isMaking ? element.getEnclosingElement() + ".<made>" : nameOf(element);
            CALLS.computeIfAbsent(method, name -> new TreeSet<>());
            Check.due(method + ": parameters, 7 at most", Math.max(7, tree.getParameters().size()), 7);
            Check.due(method + ": throws", tree.getThrows().size(), 0);
            Check.due(method + ": its type", isAllowed(element.getReturnType()) ? 1 : 0, 1);
            super.visitMethod(tree, none);
            method = before;
            return null;
        }

        @Override
        public Void visitVariable(VariableTree tree, Void none) {
            Element element = element();
            Check.due(method + ", " + tree.getName() + ": its type", isAllowed(element.asType()) ? 1 : 0, 1);
            if (element.getKind() == ElementKind.FIELD && element.getModifiers().contains(Modifier.STATIC)) {
                Check.due(tree + " is final", element.getModifiers().contains(Modifier.FINAL) ? 1 : 0, 1);
                Tree by = tree.getInitializer();
                boolean isWrittenOut = by instanceof NewArrayTree && ((NewArrayTree) by).getInitializers() != null;
                boolean isConstant = element instanceof VariableElement
                    && ((VariableElement) element).getConstantValue() != null;
                Check.due(tree + " is a constant", isWrittenOut || isConstant ? 1 : 0, 1);
            }
            return super.visitVariable(tree, none);
        }

        @Override
        public Void visitMethodInvocation(MethodInvocationTree tree, Void none) {
            Element element = element();
            if (isOwn(element)) {
                CALLS.get(method).add(nameOf(element));
            } else {
                Check.due(method + ": " + nameOf(element) + " is of the library", isOfLibrary(element) ? 1 : 0, 1);
            }
            return super.visitMethodInvocation(tree, none);
        }

        private static boolean isOfLibrary(Element element) {
            boolean isMaking = element.getKind() == ElementKind.CONSTRUCTOR;
            boolean isObject = element.getEnclosingElement().toString().equals("java.lang.Object");
            return LIBRARY.contains(nameOf(element)) || isMaking && isObject;
        }

        @Override
        public Void visitNewClass(NewClassTree tree, Void none) {
            Element made = element().getEnclosingElement();
            Check.due(tree + " is of an own class", isOwn(made) && tree.getClassBody() == null ? 1 : 0, 1);
            CALLS.get(method).add(made + ".<made>");
            boolean isMaking = method.endsWith(".<made>");
            Check.due(tree + " in a loop, outside a constructor", loops > 0 && !isMaking ? 1 : 0, 0);
            return super.visitNewClass(tree, none);
        }

        @Override
        public Void visitNewArray(NewArrayTree tree, Void none) {
            boolean isConstant = tree.getInitializers() != null;
            Check.due(tree + " is made in a constructor", isConstant || method.endsWith(".<made>") ? 1 : 0, 1);
            return super.visitNewArray(tree, none);
        }

        @Override
        public Void visitForLoop(ForLoopTree tree, Void none) {
            Check.due(method + ": a loop has a bound, and counts", tree.getCondition() != null
                && tree.getUpdate().size() == 1 && tree.getInitializer().size() == 1 ? 1 : 0, 1);
            loops++;
            super.visitForLoop(tree, none);
            loops--;
            return null;
        }

        @Override
        public Void visitEnhancedForLoop(EnhancedForLoopTree tree, Void none) {
            boolean isArray = typeOf(tree.getExpression()).getKind() == TypeKind.ARRAY;
            Check.due(method + ": for over an array", isArray ? 1 : 0, 1);
            loops++;
            super.visitEnhancedForLoop(tree, none);
            loops--;
            return null;
        }

        @Override
        public Void visitWhileLoop(WhileLoopTree tree, Void none) {
            never("a loop without a counter", tree);
            return super.visitWhileLoop(tree, none);
        }

        @Override
        public Void visitDoWhileLoop(DoWhileLoopTree tree, Void none) {
            never("a loop without a counter", tree);
            return super.visitDoWhileLoop(tree, none);
        }

        /** A bound that can be seen from a loop's own lines holds only while its body leaves the counter alone. */
        @Override
        public Void visitAssignment(AssignmentTree tree, Void none) {
            for (TreePath path = getCurrentPath(); path != null; path = path.getParentPath()) {
                Tree counter = path.getLeaf() instanceof ForLoopTree ? counterOf((ForLoopTree) path.getLeaf()) : null;
                boolean isCounter = counter instanceof VariableTree
                    && ((VariableTree) counter).getName().contentEquals(tree.getVariable().toString());
                Check.due(tree + " sets a loop's counter", isCounter ? 1 : 0, 0);
            }
            return super.visitAssignment(tree, none);
        }

        private static Tree counterOf(ForLoopTree loop) {
            return loop.getInitializer().isEmpty() ? null : loop.getInitializer().get(0);
        }

        @Override
        public Void visitBinary(BinaryTree tree, Void none) {
            TypeMirror left = typeOf(tree.getLeftOperand());
            TypeMirror right = typeOf(tree.getRightOperand());
            boolean isText = (left + " " + right).contains("java.lang.");
            Check.due(tree + " is of texts or lists' numbers", isText ? 1 : 0, 0);
            boolean divides = tree.getKind() == Tree.Kind.DIVIDE || tree.getKind() == Tree.Kind.REMAINDER;
            if (divides && !(tree.getRightOperand() instanceof LiteralTree)) {
                Check.due(tree + " is no division known", DIVISIONS.contains(tree.toString()) ? 0 : 1, 0);
            }
            return super.visitBinary(tree, none);
        }

        @Override
        public Void visitTypeCast(TypeCastTree tree, Void none) {
            Check.due(tree + " casts numbers", isNumber(typeOf(tree.getType())) ? 1 : 0, 1);
            return super.visitTypeCast(tree, none);
        }

        @Override
        public Void visitMemberSelect(MemberSelectTree tree, Void none) {
            Element element = element();
            if (element != null && element.getKind() == ElementKind.FIELD && !isOwn(element)) {
                Check.due(tree + " is an array's length", tree.getIdentifier().contentEquals("length") ? 1 : 0, 1);
            }
            return super.visitMemberSelect(tree, none);
        }

        @Override
        public Void visitLambdaExpression(LambdaExpressionTree tree, Void none) {
            never("a lambda", tree);
            return super.visitLambdaExpression(tree, none);
        }

        @Override
        public Void visitMemberReference(MemberReferenceTree tree, Void none) {
            never("a method reference", tree);
            return super.visitMemberReference(tree, none);
        }

        @Override
        public Void visitThrow(ThrowTree tree, Void none) {
            never("throw", tree);
            return super.visitThrow(tree, none);
        }

        @Override
        public Void visitTry(TryTree tree, Void none) {
            never("try", tree);
            return super.visitTry(tree, none);
        }

        @Override
        public Void visitInstanceOf(InstanceOfTree tree, Void none) {
            never("instanceof", tree);
            return super.visitInstanceOf(tree, none);
        }
    }
}
