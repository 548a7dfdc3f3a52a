import com.sun.source.tree.BinaryTree;
import com.sun.source.tree.ClassTree;
import com.sun.source.tree.CompilationUnitTree;
import com.sun.source.tree.ExpressionTree;
import com.sun.source.tree.MethodInvocationTree;
import com.sun.source.tree.MethodTree;
import com.sun.source.tree.NewClassTree;
import com.sun.source.tree.ThrowTree;
import com.sun.source.tree.Tree;
import com.sun.source.tree.TryTree;
import com.sun.source.tree.VariableTree;
import com.sun.source.util.JavacTask;
import com.sun.source.util.TreePathScanner;
import com.sun.source.util.Trees;
import java.nio.file.Files;
import java.nio.file.Path;
import java.util.HashMap;
import java.util.HashSet;
import java.util.List;
import java.util.Map;
import java.util.Set;
import java.util.TreeSet;
import javax.lang.model.element.Element;
import javax.lang.model.element.ElementKind;
import javax.lang.model.element.ExecutableElement;
import javax.lang.model.element.Modifier;
import javax.tools.JavaCompiler;
import javax.tools.StandardJavaFileManager;
import javax.tools.ToolProvider;

/** The rules of ../shared/LANGUAGE.md that a compiler's view of the program shows. */
public final class LanguageTest extends TreePathScanner<Void, Void> {
    private static final Set<String> CALLS = Set.of("String.length", "String.charAt", "String.isEmpty", "String.equals",
            "String.indexOf", "String.substring", "String.toCharArray", "StringBuilder.append", "StringBuilder.charAt",
            "StringBuilder.setCharAt", "StringBuilder.setLength", "StringBuilder.deleteCharAt", "StringBuilder.reverse",
            "StringBuilder.length", "StringBuilder.toString", "System.arraycopy", "Arrays.copyOf", "Arrays.copyOfRange",
            "Arrays.fill");
    private static final Set<String> NUMBERS = Set.of("Math", "Integer", "Long");
    private static final Set<String> LISTS = Set.of("add", "get", "set", "remove", "size", "isEmpty", "clear", "of");
    private static final Set<String> EXCEPTIONS = Set.of("IllegalStateException", "IllegalArgumentException",
            "IndexOutOfBoundsException", "ArithmeticException", "UnsupportedOperationException",
            "NoSuchElementException", "RuntimeException");
    private static final Set<String> MADE = Set.of("StringBuilder", "ArrayList", "String");
    private static final Set<String> STATIC_TYPES = Set.of("int", "long", "boolean", "char", "String", "int[]",
            "long[]", "char[]", "byte[]");
    private static final Set<Tree.Kind> NEVER = Set.of(Tree.Kind.LAMBDA_EXPRESSION, Tree.Kind.MEMBER_REFERENCE,
            Tree.Kind.SYNCHRONIZED, Tree.Kind.ASSERT);

    private final String text;
    private final CompilationUnitTree unit;
    private final Trees trees;
    private final Map<Element, Set<Element>> called = new HashMap<>();
    private Element method;
    private int classes;

    private LanguageTest(String text, CompilationUnitTree unit, Trees trees) {
        this.text = text;
        this.unit = unit;
        this.trees = trees;
    }

    public static void main(String[] args) throws Exception {
        Path file = Path.of(args.length > 0 ? args[0] : "src/main/java/PathTrust.java");
        JavaCompiler compiler = ToolProvider.getSystemJavaCompiler();
        try (StandardJavaFileManager files = compiler.getStandardFileManager(null, null, null)) {
            JavacTask task = (JavacTask) compiler.getTask(null, files, null, List.of("-proc:none"), null,
                    files.getJavaFileObjects(file));
            CompilationUnitTree unit = task.parse().iterator().next();
            task.analyze();
            new LanguageTest(Files.readString(file), unit, Trees.instance(task)).look();
        }
        Check.end("LanguageTest");
    }

    private void look() {
        Check.is("signs", text.chars().allMatch(c -> c == '\n' || c >= 32 && c < 127), true);
        Check.is("a package line", unit.getPackage() == null, true);
        Check.is("classes that stand outside", unit.getTypeDecls().size(), 1);
        scan(unit, null);
        Check.is("rule 11: some twelve classes, here " + classes, classes <= 12, true);
        for (Element caller : called.keySet()) {
            int depth = depth(caller, new HashSet<>());
            Check.is("rule 11: calls under " + caller + ", " + depth + " deep", depth <= 8, true);
        }
    }

    /** A call of a method that is open already is recursion, for which rule 11 does not speak. */
    private int depth(Element caller, Set<Element> open) {
        if (!open.add(caller)) {
            return 0;
        }
        int deepest = 0;
        for (Element next : called.getOrDefault(caller, Set.of())) {
            deepest = Math.max(deepest, depth(next, open));
        }
        open.remove(caller);
        return deepest + 1;
    }

    @Override
    public Void scan(Tree tree, Void none) {
        if (tree != null) {
            Check.is("rules 2 and 6: " + tree, NEVER.contains(tree.getKind()), false);
        }
        return super.scan(tree, none);
    }

    @Override
    public Void visitClass(ClassTree tree, Void none) {
        classes++;
        Set<Modifier> modifiers = tree.getModifiers().getFlags();
        boolean outer = getCurrentPath().getParentPath().getLeaf() == unit;
        boolean inner = !modifiers.contains(Modifier.PUBLIC) && !modifiers.contains(Modifier.PROTECTED);
        Check.is("rule 1: class " + tree.getSimpleName(), outer || inner, true);
        long fields = tree.getMembers().stream().filter(m -> m instanceof VariableTree
                && !((VariableTree) m).getModifiers().getFlags().contains(Modifier.STATIC)).count();
        Check.is("rule 11: fields of " + tree.getSimpleName(), fields <= 20, true);
        boolean block = tree.getMembers().stream().anyMatch(m -> m.getKind() == Tree.Kind.BLOCK);
        Check.is("rule 5: a block in class " + tree.getSimpleName(), block, false);
        return super.visitClass(tree, none);
    }

    @Override
    public Void visitVariable(VariableTree tree, Void none) {
        Set<Modifier> modifiers = tree.getModifiers().getFlags();
        if (modifiers.contains(Modifier.STATIC)) {
            Check.is("rule 5: " + tree, modifiers.contains(Modifier.FINAL), true);
            Check.is("rule 5: " + tree, STATIC_TYPES.contains(tree.getType().toString()), true);
        }
        return super.visitVariable(tree, none);
    }

    @Override
    public Void visitMethod(MethodTree tree, Void none) {
        method = trees.getElement(getCurrentPath());
        String name = "rule 11: " + tree.getName();
        int from = (int) trees.getSourcePositions().getStartPosition(unit, tree);
        int to = (int) trees.getSourcePositions().getEndPosition(unit, tree);
        Check.is(name + ", parameters", tree.getParameters().size() <= 7, true);
        Check.is(name + ", lines", to < 0 || text.substring(from, to).lines().count() <= 60, true);
        super.visitMethod(tree, none);
        method = null;
        return null;
    }

    @Override
    public Void visitMethodInvocation(MethodInvocationTree tree, Void none) {
        ExecutableElement target = (ExecutableElement) trees.getElement(getCurrentPath());
        Element owner = target.getEnclosingElement();
        String type = owner.getSimpleName().toString();
        String name = target.getSimpleName().toString();
        if (isOwn(owner)) {
            noteCall(target);
        } else if (!name.equals("<init>")) {
            boolean number = NUMBERS.contains(type) && !name.endsWith("Exact")
                    && target.getParameters().stream().allMatch(p -> p.asType().toString().matches("int|long"));
            boolean list = (type.equals("ArrayList") || type.equals("List")) && LISTS.contains(name);
            Check.is("rule 4: " + type + "." + name, number || list || CALLS.contains(type + "." + name), true);
        }
        return super.visitMethodInvocation(tree, none);
    }

    @Override
    public Void visitNewClass(NewClassTree tree, Void none) {
        Element made = trees.getElement(getCurrentPath());
        Element owner = made.getEnclosingElement();
        String type = owner.getSimpleName().toString();
        if (isOwn(owner)) {
            noteCall(made);
        }
        Check.is("rule 4: new " + type, isOwn(owner) || MADE.contains(type) || EXCEPTIONS.contains(type), true);
        return super.visitNewClass(tree, none);
    }

    @Override
    public Void visitThrow(ThrowTree tree, Void none) {
        ExpressionTree thrown = tree.getExpression();
        Check.is("rule 6: " + tree, thrown instanceof NewClassTree, true);
        if (thrown instanceof NewClassTree) {
            NewClassTree made = (NewClassTree) thrown;
            List<? extends ExpressionTree> told = made.getArguments();
            Check.is("rule 6: " + tree, EXCEPTIONS.contains(made.getIdentifier().toString()), true);
            Check.is("rule 6: " + tree, told.isEmpty() || told.get(0).getKind() == Tree.Kind.STRING_LITERAL, true);
        }
        boolean constructed = method != null && method.getKind() == ElementKind.CONSTRUCTOR;
        Check.is("rule 6: " + tree + " in a constructor", constructed, false);
        return super.visitThrow(tree, none);
    }

    @Override
    public Void visitTry(TryTree tree, Void none) {
        Check.is("rule 6: finally, resources", tree.getFinallyBlock() == null && tree.getResources().isEmpty(), true);
        TreeSet<String> caught = new TreeSet<>();
        tree.getCatches().forEach(c -> caught.add(c.getParameter().getType().toString()));
        Check.is("rule 6: caught " + caught, EXCEPTIONS.containsAll(caught), true);
        return super.visitTry(tree, none);
    }

    @Override
    public Void visitBinary(BinaryTree tree, Void none) {
        String type = trees.getTypeMirror(getCurrentPath()).toString();
        Check.is("rule 10: " + tree, tree.getKind() == Tree.Kind.PLUS && type.equals("java.lang.String"), false);
        return super.visitBinary(tree, none);
    }

    private void noteCall(Element target) {
        called.computeIfAbsent(method, m -> new HashSet<>()).add(target);
    }

    private static boolean isOwn(Element owner) {
        Element at = owner;
        while (at != null && at.getKind() != ElementKind.PACKAGE) {
            if (at.getSimpleName().contentEquals("PathTrust")) {
                return true;
            }
            at = at.getEnclosingElement();
        }
        return false;
    }
}
