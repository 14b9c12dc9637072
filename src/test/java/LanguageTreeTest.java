import com.sun.source.tree.BinaryTree;
import com.sun.source.tree.ClassTree;
import com.sun.source.tree.CompilationUnitTree;
import com.sun.source.tree.ForLoopTree;
import com.sun.source.tree.MethodInvocationTree;
import com.sun.source.tree.MethodTree;
import com.sun.source.tree.NewArrayTree;
import com.sun.source.tree.NewClassTree;
import com.sun.source.tree.Tree;
import com.sun.source.tree.TypeCastTree;
import com.sun.source.tree.VariableTree;
import com.sun.source.util.JavacTask;
import com.sun.source.util.TreePathScanner;
import com.sun.source.util.Trees;
import java.io.IOException;
import java.util.EnumSet;
import java.util.HashMap;
import java.util.List;
import java.util.Map;
import java.util.Set;
import java.util.TreeSet;
import javax.lang.model.element.Element;
import javax.lang.model.element.ElementKind;
import javax.lang.model.element.Modifier;
import javax.lang.model.element.NestingKind;
import javax.lang.model.element.TypeElement;
import javax.lang.model.element.VariableElement;
import javax.lang.model.type.TypeMirror;
import javax.tools.JavaCompiler;
import javax.tools.StandardJavaFileManager;
import javax.tools.ToolProvider;

/** Those rules of LANGUAGE.md that the compiler's tree of the source tells: library, types, loops, depth. */
public final class LanguageTreeTest extends TreePathScanner<Void, Void> {
    private static final int DEEPEST = 8;
    private static final Set<String> LIBRARY = Set.of("Arrays.fill", "Arrays.copyOf", "Arrays.copyOfRange",
        "System.arraycopy", "Math.max", "Math.min", "Math.abs", "Math.floorDiv", "Math.floorMod",
        "Integer.compare", "Integer.bitCount", "Long.compare", "Long.bitCount", "Object.new");
    private static final Set<String> TYPES = Set.of("int", "long", "boolean", "byte", "char", "void",
        "int[]", "long[]", "byte[]", "char[]", "java.lang.String");
    private static final Set<Tree.Kind> RULED_OUT = EnumSet.of(Tree.Kind.LAMBDA_EXPRESSION,
        Tree.Kind.MEMBER_REFERENCE, Tree.Kind.TRY, Tree.Kind.THROW, Tree.Kind.SYNCHRONIZED, Tree.Kind.ASSERT,
        Tree.Kind.WHILE_LOOP, Tree.Kind.DO_WHILE_LOOP, Tree.Kind.ANNOTATION);

    private final Check check = new Check();
    private final Trees trees;
    private final Map<String, Set<String>> calls = new HashMap<>();
    private final Set<String> face = new TreeSet<>();
    private String method = "";
    private boolean inConstructor;

    private LanguageTreeTest(Trees trees) {
        this.trees = trees;
    }

    public static void main(String[] args) throws IOException {
        JavaCompiler compiler = ToolProvider.getSystemJavaCompiler();
        try (StandardJavaFileManager files = compiler.getStandardFileManager(null, null, null)) {
            JavacTask task = (JavacTask) compiler.getTask(null, files, null, List.of("-proc:none"), null,
                files.getJavaFileObjects("src/main/java/PaceBorder.java"));
            LanguageTreeTest test = new LanguageTreeTest(Trees.instance(task));
            Iterable<? extends CompilationUnitTree> units = task.parse();
            task.analyze();
            test.scan(units, null);
            test.checkDepth();
            test.check.end();
        }
    }

    @Override
    public Void scan(Tree tree, Void v) {
        if (tree != null) {
            holds("no " + tree.getKind(), tree, !RULED_OUT.contains(tree.getKind()));
        }
        return super.scan(tree, v);
    }

    @Override
    public Void visitClass(ClassTree tree, Void v) {
        TypeElement type = (TypeElement) element();
        boolean isTop = type.getNestingKind() == NestingKind.TOP_LEVEL;
        holds("a class inside is a static member", tree, isTop
            || type.getNestingKind() == NestingKind.MEMBER && type.getModifiers().contains(Modifier.STATIC));
        holds("no code of its own outside methods", tree, tree.getMembers().stream()
            .noneMatch(member -> member.getKind() == Tree.Kind.BLOCK));
        return super.visitClass(tree, v);
    }

    @Override
    public Void visitVariable(VariableTree tree, Void v) {
        VariableElement variable = (VariableElement) element();
        holds("a type that is listed: " + variable.asType(), tree, isListed(variable.asType()));
        if (variable.getModifiers().contains(Modifier.STATIC)) {
            holds("a static field is a constant", tree, variable.getConstantValue() != null);
        }
        return super.visitVariable(tree, v);
    }

    private static boolean isListed(TypeMirror type) {
        String name = type.toString();
        return TYPES.contains(name) || name.startsWith("PaceBorder");
    }

    @Override
    public Void visitMethod(MethodTree tree, Void v) {
        Element own = element();
        method = nameOf(own);
        inConstructor = own.getKind() == ElementKind.CONSTRUCTOR;
        calls.putIfAbsent(method, new TreeSet<>());
        if (own.getModifiers().contains(Modifier.PUBLIC)) {
            face.add(method);
        }
        holds("at most seven parameters", tree, tree.getParameters().size() <= 7);
        return super.visitMethod(tree, v);
    }

    @Override
    public Void visitMethodInvocation(MethodInvocationTree tree, Void v) {
        note(element(), tree);
        return super.visitMethodInvocation(tree, v);
    }

    @Override
    public Void visitNewClass(NewClassTree tree, Void v) {
        holds("an object is made by a constructor alone", tree, inConstructor && tree.getClassBody() == null);
        note(element(), tree);
        return super.visitNewClass(tree, v);
    }

    @Override
    public Void visitNewArray(NewArrayTree tree, Void v) {
        holds("an array is made by a constructor alone", tree, inConstructor);
        return super.visitNewArray(tree, v);
    }

    private void note(Element called, Tree tree) {
        if (called.getEnclosingElement().toString().startsWith("PaceBorder")) {
            calls.get(method).add(nameOf(called));
        } else {
            holds("a call that is listed: " + nameOf(called), tree, LIBRARY.contains(nameOf(called)));
        }
    }

    private static String nameOf(Element method) {
        boolean isConstructor = method.getKind() == ElementKind.CONSTRUCTOR;
        return method.getEnclosingElement().getSimpleName() + "."
            + (isConstructor ? "new" : method.getSimpleName());
    }

    @Override
    public Void visitForLoop(ForLoopTree tree, Void v) {
        holds("a loop has a bound and a step", tree, tree.getCondition() != null && !tree.getUpdate().isEmpty());
        return super.visitForLoop(tree, v);
    }

    @Override
    public Void visitTypeCast(TypeCastTree tree, Void v) {
        holds("a cast of numbers", tree, trees.getTypeMirror(getCurrentPath()).getKind().isPrimitive());
        return super.visitTypeCast(tree, v);
    }

    @Override
    public Void visitBinary(BinaryTree tree, Void v) {
        TypeMirror type = trees.getTypeMirror(getCurrentPath());
        holds("texts are not joined by +", tree, !type.toString().equals("java.lang.String"));
        return super.visitBinary(tree, v);
    }

    /** Without recursion the depth has an end; with it, it goes beyond the bound, and this fails. */
    private void checkDepth() {
        for (String one : face) {
            int depth = depthOf(one, 1);
            check.due(one + " goes deeper than " + DEEPEST, Math.max(depth, DEEPEST), DEEPEST);
        }
        check.due("methods of the face, and the constructor", face.size(), 49);
    }

    private int depthOf(String one, int depth) {
        int deepest = depth;
        for (String next : calls.getOrDefault(one, Set.of())) {
            deepest = Math.max(deepest, depth > DEEPEST ? depth : depthOf(next, depth + 1));
        }
        return deepest;
    }

    private Element element() {
        return trees.getElement(getCurrentPath());
    }

    private void holds(String rule, Tree tree, boolean held) {
        check.due(rule + ", but: " + (held ? "" : firstLineOf(tree)), held ? 1 : 0, 1);
    }

    private static String firstLineOf(Tree tree) {
        return tree.toString().strip().lines().findFirst().orElse("");
    }
}
