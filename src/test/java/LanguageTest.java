import com.sun.source.tree.AssertTree;
import com.sun.source.tree.BinaryTree;
import com.sun.source.tree.ClassTree;
import com.sun.source.tree.CompilationUnitTree;
import com.sun.source.tree.CompoundAssignmentTree;
import com.sun.source.tree.ExpressionTree;
import com.sun.source.tree.LambdaExpressionTree;
import com.sun.source.tree.MemberReferenceTree;
import com.sun.source.tree.MethodInvocationTree;
import com.sun.source.tree.MethodTree;
import com.sun.source.tree.NewArrayTree;
import com.sun.source.tree.NewClassTree;
import com.sun.source.tree.SynchronizedTree;
import com.sun.source.tree.ThrowTree;
import com.sun.source.tree.Tree;
import com.sun.source.tree.TryTree;
import com.sun.source.tree.TypeCastTree;
import com.sun.source.tree.VariableTree;
import com.sun.source.util.JavacTask;
import com.sun.source.util.TreePath;
import com.sun.source.util.TreePathScanner;
import com.sun.source.util.Trees;
import java.io.File;
import java.io.IOException;
import java.nio.file.Files;
import java.nio.file.Path;
import java.util.ArrayList;
import java.util.HashMap;
import java.util.HashSet;
import java.util.List;
import java.util.Map;
import java.util.Set;
import javax.lang.model.element.Element;
import javax.lang.model.element.ElementKind;
import javax.lang.model.element.Modifier;
import javax.lang.model.type.TypeMirror;
import javax.tools.JavaCompiler;
import javax.tools.StandardJavaFileManager;
import javax.tools.ToolProvider;

/**
 * The rules of ../shared/LANGUAGE.md that can be seen from the text of the class alone, by their numbers; the test is
 * narrower than the rules where the class needs no more (no lists, no try, no arrays of two dimensions, no recursion).
 */
public final class LanguageTest {
    private static final Path SOURCE = Path.of("src", "main", "java", "NotaryBook.java");
    private static final int LINES_OF_A_METHOD = 60;
    private static final int DEPTH_OF_CALLS = 8;
    private static final int CLASSES = 12;

    private static final Set<String> LIBRARY = Set.of(
            "java.lang.String.length", "java.lang.String.charAt", "java.lang.String.isEmpty", "java.lang.String.equals",
            "java.lang.String.indexOf", "java.lang.String.substring", "java.lang.String.toCharArray",
            "java.lang.StringBuilder.append", "java.lang.StringBuilder.charAt", "java.lang.StringBuilder.setCharAt",
            "java.lang.StringBuilder.setLength", "java.lang.StringBuilder.deleteCharAt",
            "java.lang.StringBuilder.reverse", "java.lang.StringBuilder.length", "java.lang.StringBuilder.toString",
            "java.lang.Math.max", "java.lang.Math.min", "java.lang.Math.abs", "java.lang.Math.floorDiv",
            "java.lang.Math.floorMod", "java.lang.System.arraycopy", "java.util.Arrays.copyOf",
            "java.util.Arrays.copyOfRange", "java.util.Arrays.fill");
    private static final Set<String> EXCEPTIONS = Set.of("IllegalStateException", "IllegalArgumentException",
            "IndexOutOfBoundsException");
    private static final Set<String> CONSTANTS = Set.of("int", "long", "boolean", "char", "java.lang.String", "int[]",
            "long[]", "char[]", "byte[]");
    private static final Set<String> NUMBERS = Set.of("int", "long", "short", "byte", "char", "float", "double");

    private static int wrong = 0;
    private static int looked = 0;

    private LanguageTest() {
    }

    /** All that is looked at in the class, with the element that each name stands for. */
    private static final class Look extends TreePathScanner<Void, Void> {
        private final Trees trees;
        private final CompilationUnitTree unit;
        final Map<Element, Set<Element>> calls = new HashMap<>();
        final List<Element> methods = new ArrayList<>();
        int classes = 0;
        private Element method;
        private boolean inConstructor;

        Look(Trees trees, CompilationUnitTree unit) {
            this.trees = trees;
            this.unit = unit;
        }

        private void must(boolean is, int rule, Tree tree, String what) {
            looked++;
            if (!is) {
                wrong++;
                long line = unit.getLineMap().getLineNumber(trees.getSourcePositions().getStartPosition(unit, tree));
                System.out.println("rule " + rule + ", line " + line + ": " + what);
            }
        }

        private Element element(Tree tree) {
            return trees.getElement(new TreePath(getCurrentPath(), tree));
        }

        private String type(Tree tree) {
            TypeMirror type = trees.getTypeMirror(new TreePath(getCurrentPath(), tree));
            return type == null ? "" : type.toString();
        }

        private boolean isOwn(String type) {
            return type.equals("NotaryBook") || type.startsWith("NotaryBook.");
        }

        private int lines(Tree tree) {
            long start = trees.getSourcePositions().getStartPosition(unit, tree);
            long end = trees.getSourcePositions().getEndPosition(unit, tree);
            return (int) (unit.getLineMap().getLineNumber(end) - unit.getLineMap().getLineNumber(start)) + 1;
        }

        @Override
        public Void visitCompilationUnit(CompilationUnitTree tree, Void v) {
            must(tree.getPackageName() == null, 0, tree, "a package line");
            must(tree.getImports().isEmpty(), 4, tree, "an import: none is needed");
            must(tree.getTypeDecls().size() == 1, 0, tree, "a second class beside the public one");
            return super.visitCompilationUnit(tree, v);
        }

        @Override
        public Void visitClass(ClassTree tree, Void v) {
            classes++;
            must(tree.getKind() == Tree.Kind.CLASS, 2, tree, "no plain class, as all others are");
            must(!tree.getSimpleName().toString().isEmpty(), 2, tree, "an anonymous class");
            return super.visitClass(tree, v);
        }

        @Override
        public Void visitMethod(MethodTree tree, Void v) {
            method = element(tree);
            if (method == null) {
                method = trees.getElement(getCurrentPath());
            }
            methods.add(method);
            calls.put(method, new HashSet<>());
            inConstructor = method.getKind() == ElementKind.CONSTRUCTOR;
            must(lines(tree) <= LINES_OF_A_METHOD, 11, tree, tree.getName() + " is too long");
            must(tree.getParameters().size() <= 7, 11, tree, tree.getName() + " takes too many parameters");
            must(tree.getTypeParameters().isEmpty(), 3, tree, "a method of many types");
            super.visitMethod(tree, v);
            method = null;
            inConstructor = false;
            return null;
        }

        @Override
        public Void visitVariable(VariableTree tree, Void v) {
            Element variable = trees.getElement(getCurrentPath());
            String type = variable.asType().toString();
            String one = type.replaceFirst("\\[\\]$", "");
            must(isOwn(one) || NUMBERS.contains(one) || one.equals("boolean") || one.equals("java.lang.String")
                    || one.equals("java.lang.StringBuilder"), 3, tree, "the type " + type);
            if (variable.getKind() == ElementKind.FIELD && variable.getModifiers().contains(Modifier.STATIC)) {
                must(variable.getModifiers().contains(Modifier.FINAL), 5, tree, tree.getName() + " is not final");
                must(CONSTANTS.contains(type), 5, tree, tree.getName() + " is no constant");
            }
            return super.visitVariable(tree, v);
        }

        @Override
        public Void visitMethodInvocation(MethodInvocationTree tree, Void v) {
            Element called = element(tree.getMethodSelect());
            if (called == null || called.getKind() == ElementKind.CONSTRUCTOR) {
                return super.visitMethodInvocation(tree, v);
            }
            // The methods of a StringBuilder that its hidden parent has are its own by the rules.
            String owner = called.getEnclosingElement().toString().replace("AbstractStringBuilder", "StringBuilder");
            if (isOwn(owner)) {
                must(method != null, 12, tree, "a call ahead of all methods");
                if (method != null) {
                    calls.get(method).add(called);
                }
            } else {
                boolean isClone = called.getSimpleName().contentEquals("clone") && owner.equals("Array");
                must(isClone || LIBRARY.contains(owner + "." + called.getSimpleName()), 4, tree,
                        owner + "." + called.getSimpleName());
            }
            must(!inConstructor, 12, tree, "a call in a constructor");
            return super.visitMethodInvocation(tree, v);
        }

        @Override
        public Void visitNewClass(NewClassTree tree, Void v) {
            String type = type(tree.getIdentifier());
            Tree.Kind parent = getCurrentPath().getParentPath().getLeaf().getKind();
            boolean isThrown = parent == Tree.Kind.THROW && EXCEPTIONS.contains(type.replace("java.lang.", ""));
            must(isOwn(type) || isThrown || type.equals("java.lang.StringBuilder"), 4, tree, "new " + type);
            must(tree.getClassBody() == null, 2, tree, "an anonymous class");
            return super.visitNewClass(tree, v);
        }

        @Override
        public Void visitNewArray(NewArrayTree tree, Void v) {
            must(tree.getDimensions().size() <= 1, 3, tree, "an array of more than one dimension");
            return super.visitNewArray(tree, v);
        }

        @Override
        public Void visitThrow(ThrowTree tree, Void v) {
            must(!inConstructor, 6, tree, "a throw in a constructor");
            must(tree.getExpression().getKind() == Tree.Kind.NEW_CLASS, 6, tree, "a throw of what is not made there");
            if (tree.getExpression() instanceof NewClassTree) {
                for (ExpressionTree text : ((NewClassTree) tree.getExpression()).getArguments()) {
                    must(text.getKind() == Tree.Kind.STRING_LITERAL, 6, tree, "a text that is not written out");
                }
            }
            return super.visitThrow(tree, v);
        }

        @Override
        public Void visitBinary(BinaryTree tree, Void v) {
            boolean isText = type(tree.getLeftOperand()).equals("java.lang.String")
                    || type(tree.getRightOperand()).equals("java.lang.String");
            must(!isText, 10, tree, "texts joined by +, or compared by ==");
            if (tree.getKind() == Tree.Kind.DIVIDE || tree.getKind() == Tree.Kind.REMAINDER) {
                dividesBy(tree.getRightOperand());
            }
            return super.visitBinary(tree, v);
        }

        /** A constant, or a number that the same method compares with 0. */
        private void dividesBy(ExpressionTree divisor) {
            Element number = element(divisor);
            boolean isConstant = number != null && number.getModifiers().contains(Modifier.STATIC)
                    && number.getModifiers().contains(Modifier.FINAL);
            String body = methodText();
            String name = divisor.toString().replaceFirst("^\\(.*\\)", "");
            must(isConstant || divisor.getKind() == Tree.Kind.INT_LITERAL || body.contains(name + " > 0")
                    || body.contains(name + " == 0"), 7, divisor, "a divisor that is not looked at: " + divisor);
        }

        private String methodText() {
            for (Tree tree : getCurrentPath()) {
                if (tree instanceof MethodTree) {
                    return tree.toString();
                }
            }
            return "";
        }

        @Override
        public Void visitCompoundAssignment(CompoundAssignmentTree tree, Void v) {
            must(!type(tree.getVariable()).equals("java.lang.String"), 10, tree, "texts joined by +=");
            must(tree.getKind() != Tree.Kind.DIVIDE_ASSIGNMENT && tree.getKind() != Tree.Kind.REMAINDER_ASSIGNMENT, 7,
                    tree, "a division that is not looked at");
            return super.visitCompoundAssignment(tree, v);
        }

        @Override
        public Void visitTypeCast(TypeCastTree tree, Void v) {
            must(NUMBERS.contains(type(tree.getType())), 6, tree, "a cast that is none of numbers");
            return super.visitTypeCast(tree, v);
        }

        @Override
        public Void visitLambdaExpression(LambdaExpressionTree tree, Void v) {
            must(false, 2, tree, "a lambda");
            return super.visitLambdaExpression(tree, v);
        }

        @Override
        public Void visitMemberReference(MemberReferenceTree tree, Void v) {
            must(false, 2, tree, "a method reference");
            return super.visitMemberReference(tree, v);
        }

        @Override
        public Void visitTry(TryTree tree, Void v) {
            must(false, 6, tree, "a try: none is needed");
            return super.visitTry(tree, v);
        }

        @Override
        public Void visitSynchronized(SynchronizedTree tree, Void v) {
            must(false, 6, tree, "synchronized");
            return super.visitSynchronized(tree, v);
        }

        @Override
        public Void visitAssert(AssertTree tree, Void v) {
            must(false, 6, tree, "assert");
            return super.visitAssert(tree, v);
        }
    }

    /** How many calls stand open at once at most, from this one on; too many if a method comes to itself. */
    private static int depth(Map<Element, Set<Element>> calls, Element method, int open) {
        if (open > DEPTH_OF_CALLS) {
            return 1;
        }
        int deepest = 0;
        for (Element called : calls.getOrDefault(method, Set.of())) {
            deepest = Math.max(deepest, depth(calls, called, open + 1));
        }
        return deepest + 1;
    }

    private static void callsAreShort(Look look) {
        for (Element method : look.methods) {
            looked++;
            int depth = depth(look.calls, method, 1);
            if (depth > DEPTH_OF_CALLS) {
                wrong++;
                System.out.println("rule 11: " + method + " comes to more than " + DEPTH_OF_CALLS + " calls in one another");
            }
        }
    }

    private static void textIsPlain() throws IOException {
        String text = Files.readString(SOURCE);
        for (int at = 0; at < text.length(); at++) {
            char sign = text.charAt(at);
            if (sign > 126 || sign < 32 && sign != '\n') {
                wrong++;
                System.out.println("rule 4: the sign " + (int) sign + " at " + at);
            }
        }
    }

    public static void main(String[] args) throws IOException {
        JavaCompiler compiler = ToolProvider.getSystemJavaCompiler();
        StandardJavaFileManager files = compiler.getStandardFileManager(null, null, null);
        JavacTask task = (JavacTask) compiler.getTask(null, files, null, List.of("-proc:none"), null,
                files.getJavaFileObjects(new File(SOURCE.toString())));
        CompilationUnitTree unit = task.parse().iterator().next();
        task.analyze();
        Look look = new Look(Trees.instance(task), unit);
        look.scan(unit, null);
        callsAreShort(look);
        textIsPlain();
        if (look.classes > CLASSES) {
            wrong++;
            System.out.println("rule 11: " + look.classes + " classes");
        }
        System.out.println("LanguageTest: " + looked + " looked at, " + look.methods.size() + " methods, " + wrong + " wrong");
        if (wrong != 0) {
            System.exit(1);
        }
    }
}
