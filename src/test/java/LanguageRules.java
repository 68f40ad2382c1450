import com.sun.source.tree.AssertTree;
import com.sun.source.tree.BinaryTree;
import com.sun.source.tree.BlockTree;
import com.sun.source.tree.ClassTree;
import com.sun.source.tree.CompilationUnitTree;
import com.sun.source.tree.DoWhileLoopTree;
import com.sun.source.tree.ExpressionTree;
import com.sun.source.tree.ForLoopTree;
import com.sun.source.tree.ImportTree;
import com.sun.source.tree.LambdaExpressionTree;
import com.sun.source.tree.LiteralTree;
import com.sun.source.tree.MemberReferenceTree;
import com.sun.source.tree.MethodInvocationTree;
import com.sun.source.tree.MethodTree;
import com.sun.source.tree.NewArrayTree;
import com.sun.source.tree.NewClassTree;
import com.sun.source.tree.SwitchTree;
import com.sun.source.tree.SynchronizedTree;
import com.sun.source.tree.ThrowTree;
import com.sun.source.tree.Tree;
import com.sun.source.tree.TryTree;
import com.sun.source.tree.TypeCastTree;
import com.sun.source.tree.VariableTree;
import com.sun.source.tree.WhileLoopTree;
import com.sun.source.util.SourcePositions;
import com.sun.source.util.TreePath;
import com.sun.source.util.TreePathScanner;
import com.sun.source.util.Trees;
import java.util.List;
import java.util.Set;
import java.util.TreeSet;
import javax.lang.model.element.Element;
import javax.lang.model.element.ElementKind;
import javax.lang.model.element.ExecutableElement;
import javax.lang.model.element.Modifier;
import javax.lang.model.element.VariableElement;
import javax.lang.model.type.ArrayType;
import javax.lang.model.type.TypeKind;
import javax.lang.model.type.TypeMirror;

/**
 * What LANGUAGE.md says of the program's file, as far as a reader of its tree can see it. It is narrower than
 * LANGUAGE.md in what this program needs nothing of: no call makes objects but exceptions, nothing is caught, no
 * reference is cast.
 */
final class LanguageRules extends TreePathScanner<Void, Void> {
    private static final int MOST_PARAMETERS = 7;
    private static final int LONGEST_METHOD = 60;
    private static final int MOST_FIELDS = 20;
    private static final Set<String> IMPORTS = Set.of("java.util.Arrays", "java.util.NoSuchElementException",
        "java.util.ArrayList", "java.util.List", "java.util.Iterator");
    private static final Set<String> THROWN = Set.of("IllegalStateException", "IllegalArgumentException",
        "IndexOutOfBoundsException", "ArithmeticException", "UnsupportedOperationException", "NoSuchElementException",
        "RuntimeException");
    private static final Set<String> TYPES = Set.of("int", "long", "short", "byte", "char", "boolean",
        "java.lang.String");
    private static final Set<String> CONSTANTS = Set.of("int", "long", "boolean", "char", "java.lang.String",
        "int[]", "long[]", "char[]", "byte[]");
    private static final Set<String> LIBRARY = Set.of("java.lang.String.length", "java.lang.String.charAt",
        "java.lang.String.isEmpty", "java.lang.String.equals", "java.lang.String.indexOf", "java.lang.String.substring",
        "java.lang.String.toCharArray", "java.lang.System.arraycopy", "java.util.Arrays.copyOf",
        "java.util.Arrays.copyOfRange", "java.util.Arrays.fill");
    private static final Set<String> NUMBERS = Set.of("java.lang.Integer", "java.lang.Long", "java.lang.Math");

    private final CompilationUnitTree unit;
    private final Trees trees;
    private final SourcePositions places;
    private final Set<String> publicNames = new TreeSet<>();
    private final Set<String> privateNames = new TreeSet<>();
    private final CallGraph calls = new CallGraph();
    private int classes = 0;
    /** Of which method the calls are that are met; "" outside. */
    private String within = "";

    LanguageRules(CompilationUnitTree unit, Trees trees) {
        this.unit = unit;
        this.trees = trees;
        places = trees.getSourcePositions();
    }

    Set<String> publicNames() {
        return publicNames;
    }

    Set<String> privateNames() {
        return privateNames;
    }

    CallGraph calls() {
        return calls;
    }

    int classes() {
        return classes;
    }

    private long line(Tree tree) {
        return unit.getLineMap().getLineNumber(places.getStartPosition(unit, tree));
    }

    private long lastLine(Tree tree) {
        return unit.getLineMap().getLineNumber(places.getEndPosition(unit, tree));
    }

    /** The rule forbids what is seen there. */
    private void forbid(boolean seen, int rule, Tree tree, String what) {
        if (seen) {
            Checks.about("rule " + rule);
            Checks.report("line " + line(tree) + ": " + what);
        }
    }

    private TypeMirror typeOf(Tree tree) {
        return trees.getTypeMirror(TreePath.getPath(unit, tree));
    }

    private static String nameOf(TypeMirror type) {
        return type == null ? "" : type.toString();
    }

    private static boolean isOwn(String type) {
        return type.equals("GapSongs") || type.startsWith("GapSongs.");
    }

    private static String fullName(Element element) {
        return element.getEnclosingElement() + "." + element.getSimpleName();
    }

    private static boolean isConstructor(MethodTree tree) {
        return tree.getName().contentEquals("<init>");
    }

    // ---- what stands in the file, and in a class ----

    @Override
    public Void visitImport(ImportTree tree, Void none) {
        String name = tree.getQualifiedIdentifier().toString();
        forbid(tree.isStatic() || !IMPORTS.contains(name), 4, tree, "imports " + name);
        return super.visitImport(tree, none);
    }

    @Override
    public Void visitClass(ClassTree tree, Void none) {
        classes++;
        Set<Modifier> flags = trees.getElement(getCurrentPath()).getModifiers();
        boolean outer = getCurrentPath().getParentPath().getLeaf() instanceof CompilationUnitTree;
        boolean hidden = !flags.contains(Modifier.PUBLIC) && !flags.contains(Modifier.PROTECTED);
        forbid(outer && (hidden || !flags.contains(Modifier.FINAL)), 1, tree, "the class is not public and final");
        forbid(!outer && (!hidden || !flags.contains(Modifier.STATIC)), 1, tree, "a class inside is open, or not static");
        int fields = 0;
        for (Tree member : tree.getMembers()) {
            boolean block = member instanceof BlockTree;
            forbid(block && ((BlockTree) member).isStatic(), 5, member, "a static block");
            boolean field = member instanceof VariableTree;
            fields += field && !isStatic((VariableTree) member) ? 1 : 0;
        }
        forbid(fields > MOST_FIELDS, 11, tree, "has " + fields + " fields");
        return super.visitClass(tree, none);
    }

    private static boolean isStatic(VariableTree tree) {
        return tree.getModifiers().getFlags().contains(Modifier.STATIC);
    }

    @Override
    public Void visitVariable(VariableTree tree, Void none) {
        VariableElement element = (VariableElement) trees.getElement(getCurrentPath());
        TypeMirror type = element.asType();
        if (element.getKind() == ElementKind.FIELD) {
            boolean face = tree.getName().contentEquals("NONE");
            forbid(!face && !element.getModifiers().contains(Modifier.PRIVATE), 1, tree, "a field that is not private");
        }
        if (element.getModifiers().contains(Modifier.STATIC)) {
            forbid(!element.getModifiers().contains(Modifier.FINAL), 5, tree, "a static field that is not final");
            forbid(!CONSTANTS.contains(nameOf(type)), 5, tree, "a constant of type " + type);
        }
        forbid(!isAllowed(type), 3, tree, "the type " + type);
        return super.visitVariable(tree, none);
    }

    private static boolean isAllowed(TypeMirror type) {
        if (type.getKind() == TypeKind.ARRAY) {
            TypeMirror inner = ((ArrayType) type).getComponentType();
            boolean row = inner.getKind().isPrimitive() || isOwn(nameOf(inner));
            boolean rows = inner.getKind() == TypeKind.ARRAY && ((ArrayType) inner).getComponentType().getKind().isPrimitive();
            return row || rows;
        }
        return TYPES.contains(nameOf(type)) || isOwn(nameOf(type));
    }

    @Override
    public Void visitMethod(MethodTree tree, Void none) {
        Element element = trees.getElement(getCurrentPath());
        boolean open = element.getModifiers().contains(Modifier.PUBLIC);
        boolean closed = element.getModifiers().contains(Modifier.PRIVATE);
        forbid(!open && !closed, 1, tree, "a method that is neither public nor private");
        if (!isConstructor(tree)) {
            (open ? publicNames : privateNames).add(tree.getName().toString());
        }
        forbid(tree.getParameters().size() > MOST_PARAMETERS, 11, tree, "too many parameters");
        forbid(lastLine(tree) - line(tree) >= LONGEST_METHOD, 11, tree, "a long method");
        within = fullName(element);
        super.visitMethod(tree, none);
        within = "";
        return null;
    }

    // ---- what is called and made ----

    @Override
    public Void visitMethodInvocation(MethodInvocationTree tree, Void none) {
        ExecutableElement called = (ExecutableElement) trees.getElement(getCurrentPath());
        String owner = called.getEnclosingElement().toString();
        String name = fullName(called);
        if (isOwn(owner)) {
            calls.add(within, name);
        } else {
            boolean constructor = called.getKind() == ElementKind.CONSTRUCTOR;
            boolean fits = constructor || LIBRARY.contains(name) || NUMBERS.contains(owner) && overNumbers(called);
            forbid(!fits, 4, tree, "calls " + name);
        }
        return super.visitMethodInvocation(tree, none);
    }

    private static boolean overNumbers(ExecutableElement called) {
        boolean all = !called.getSimpleName().toString().endsWith("Exact");
        for (VariableElement parameter : called.getParameters()) {
            String type = nameOf(parameter.asType());
            all = all && (type.equals("int") || type.equals("long"));
        }
        return all;
    }

    @Override
    public Void visitNewClass(NewClassTree tree, Void none) {
        boolean thrown = getCurrentPath().getParentPath().getLeaf() instanceof ThrowTree;
        String type = nameOf(typeOf(tree));
        forbid(!thrown && !isOwn(type), 4, tree, "makes a " + type);
        forbid(!thrown && !inMaking(), 12, tree, "a call makes an object");
        return super.visitNewClass(tree, none);
    }

    @Override
    public Void visitNewArray(NewArrayTree tree, Void none) {
        forbid(!inMaking(), 12, tree, "a call makes an array");
        return super.visitNewArray(tree, none);
    }

    /** Whether this stands in a constructor, or in a field's first value. */
    private boolean inMaking() {
        return within.isEmpty() || within.endsWith(".<init>");
    }

    // ---- exceptions ----

    @Override
    public Void visitThrow(ThrowTree tree, Void none) {
        boolean fits = false;
        if (tree.getExpression() instanceof NewClassTree) {
            NewClassTree made = (NewClassTree) tree.getExpression();
            List<? extends ExpressionTree> words = made.getArguments();
            boolean written = words.isEmpty() || words.size() == 1 && words.get(0) instanceof LiteralTree;
            fits = written && THROWN.contains(made.getIdentifier().toString());
        }
        forbid(!fits, 6, tree, "throws something else than a new exception with a written text");
        forbid(within.endsWith(".<init>"), 6, tree, "a constructor throws");
        return super.visitThrow(tree, none);
    }

    @Override
    public Void visitTry(TryTree tree, Void none) {
        forbid(true, 6, tree, "try");
        return super.visitTry(tree, none);
    }

    // ---- forms that are left out ----

    @Override
    public Void visitLambdaExpression(LambdaExpressionTree tree, Void none) {
        forbid(true, 2, tree, "a lambda");
        return super.visitLambdaExpression(tree, none);
    }

    @Override
    public Void visitMemberReference(MemberReferenceTree tree, Void none) {
        forbid(true, 2, tree, "a method reference");
        return super.visitMemberReference(tree, none);
    }

    @Override
    public Void visitSynchronized(SynchronizedTree tree, Void none) {
        forbid(true, 6, tree, "synchronized");
        return super.visitSynchronized(tree, none);
    }

    @Override
    public Void visitAssert(AssertTree tree, Void none) {
        forbid(true, 6, tree, "assert");
        return super.visitAssert(tree, none);
    }

    @Override
    public Void visitTypeCast(TypeCastTree tree, Void none) {
        forbid(!typeOf(tree).getKind().isPrimitive(), 6, tree, "casts a reference");
        return super.visitTypeCast(tree, none);
    }

    @Override
    public Void visitBinary(BinaryTree tree, Void none) {
        boolean text = nameOf(typeOf(tree.getLeftOperand())).equals("java.lang.String")
            || nameOf(typeOf(tree.getRightOperand())).equals("java.lang.String");
        forbid(text && tree.getKind() == Tree.Kind.PLUS, 10, tree, "joins texts by +");
        forbid(text, 6, tree, "compares texts");
        return super.visitBinary(tree, none);
    }

    @Override
    public Void visitSwitch(SwitchTree tree, Void none) {
        forbid(nameOf(typeOf(tree.getExpression())).equals("java.lang.String"), 10, tree, "switch on a text");
        return super.visitSwitch(tree, none);
    }

    @Override
    public Void visitLiteral(LiteralTree tree, Void none) {
        if (tree.getValue() instanceof String) {
            String text = (String) tree.getValue();
            forbid(!text.chars().allMatch(sign -> sign >= 1 && sign <= 127), 4, tree, "another sign than 1 to 127");
        }
        return super.visitLiteral(tree, none);
    }

    // ---- loops ----

    @Override
    public Void visitWhileLoop(WhileLoopTree tree, Void none) {
        forbid(isEndless(tree.getCondition()), 9, tree, "a loop without an end");
        return super.visitWhileLoop(tree, none);
    }

    @Override
    public Void visitDoWhileLoop(DoWhileLoopTree tree, Void none) {
        forbid(isEndless(tree.getCondition()), 9, tree, "a loop without an end");
        return super.visitDoWhileLoop(tree, none);
    }

    @Override
    public Void visitForLoop(ForLoopTree tree, Void none) {
        forbid(isEndless(tree.getCondition()), 9, tree, "a loop without an end");
        return super.visitForLoop(tree, none);
    }

    private static boolean isEndless(ExpressionTree condition) {
        return condition == null || condition.toString().replaceAll("[()]", "").equals("true");
    }
}
