import com.sun.source.tree.ArrayAccessTree;
import com.sun.source.tree.BinaryTree;
import com.sun.source.tree.ClassTree;
import com.sun.source.tree.CompilationUnitTree;
import com.sun.source.tree.MethodInvocationTree;
import com.sun.source.tree.MethodTree;
import com.sun.source.tree.NewArrayTree;
import com.sun.source.tree.NewClassTree;
import com.sun.source.tree.ThrowTree;
import com.sun.source.tree.Tree;
import com.sun.source.tree.VariableTree;
import com.sun.source.util.JavacTask;
import com.sun.source.util.TreePath;
import com.sun.source.util.TreePathScanner;
import com.sun.source.util.Trees;
import java.io.File;
import java.io.IOException;
import java.util.ArrayList;
import java.util.HashMap;
import java.util.LinkedHashMap;
import java.util.List;
import java.util.Map;
import java.util.Set;
import java.util.TreeSet;
import javax.lang.model.element.Element;
import javax.lang.model.element.ElementKind;
import javax.lang.model.element.ExecutableElement;
import javax.lang.model.element.Modifier;
import javax.lang.model.element.TypeElement;
import javax.lang.model.type.TypeKind;
import javax.tools.JavaCompiler;
import javax.tools.StandardJavaFileManager;
import javax.tools.ToolProvider;

/** The rules of ../shared/LANGUAGE.md that can be read off the source of the program. */
public final class LanguageTest extends TreePathScanner<Void, Void> {
    private static final String SOURCE = "src/main/java/WinnerDraws.java";
    private static final Set<String> FACE = Set.of("feed", "county", "law", "work", "book", "fault", "undo", "told",
            "parish", "ward", "side", "cost", "would", "may", "best", "redrawn", "turned", "reigns", "round", "swing",
            "waste", "fits", "look", "recount", "smallest", "closest", "border", "tide", "flip", "lone", "cluster",
            "strongest", "time", "span", "image", "restore", "status", "count");
    private static final Set<Tree.Kind> RULED_OUT = Set.of(Tree.Kind.LAMBDA_EXPRESSION, Tree.Kind.MEMBER_REFERENCE,
            Tree.Kind.TRY, Tree.Kind.CATCH, Tree.Kind.SYNCHRONIZED, Tree.Kind.ASSERT, Tree.Kind.YIELD,
            Tree.Kind.SWITCH_EXPRESSION, Tree.Kind.INSTANCE_OF, Tree.Kind.DOUBLE_LITERAL, Tree.Kind.FLOAT_LITERAL);
    private static final Set<String> LIBRARY = Set.of("java.lang.Math.min", "java.lang.Math.max", "java.lang.Math.abs",
            "java.lang.Integer.bitCount", "java.lang.Integer.compare", "java.lang.String.length",
            "java.lang.String.charAt", "java.lang.Object.<init>");
    /** Where a divisor that is no constant is looked at right ahead of it, or is a counter from 1 on. */
    private static final Set<String> DIVIDES = Set.of("joined", "tideOf", "drawn", "leastTerm", "waysToTake");

    private final Check check = new Check();
    private final Map<String, Set<String>> calls = new LinkedHashMap<>();
    private final Map<String, Integer> fields = new HashMap<>();
    private final Set<String> publicMethods = new TreeSet<>();
    private Trees trees;
    private CompilationUnitTree unit;
    private int classes;

    public static void main(String[] args) throws IOException {
        new LanguageTest().look();
    }

    private void look() throws IOException {
        JavaCompiler compiler = ToolProvider.getSystemJavaCompiler();
        try (StandardJavaFileManager files = compiler.getStandardFileManager(null, null, null)) {
            JavacTask task = (JavacTask) compiler.getTask(null, files, null, List.of("-proc:none"), null,
                    files.getJavaFileObjects(new File(SOURCE)));
            trees = Trees.instance(task);
            Iterable<? extends CompilationUnitTree> units = task.parse();
            task.analyze();
            for (CompilationUnitTree each : units) {
                unit = each;
                holds("no package", each.getPackageName() == null, each);
                scan(each, null);
            }
        }
        check.same("public methods", 1, publicMethods.equals(new TreeSet<>(FACE)) ? 1 : 0);
        check.same("classes, at most 12", 1, classes <= 12 ? 1 : 0);
        fields.forEach((type, many) -> check.same("fields of " + type, 1, many <= 20 ? 1 : 0));
        for (String method : calls.keySet()) {
            List<String> deepest = deepest(method, new ArrayList<>());
            check.same("depth of " + deepest, 1, deepest.size() <= 8 ? 1 : 0);
        }
        check.end();
    }

    private void holds(String rule, boolean held, Tree tree) {
        long line = unit.getLineMap().getLineNumber(trees.getSourcePositions().getStartPosition(unit, tree));
        check.same("line " + line + ": " + rule, 1, held ? 1 : 0);
    }

    private long lines(Tree tree) {
        long start = trees.getSourcePositions().getStartPosition(unit, tree);
        long end = trees.getSourcePositions().getEndPosition(unit, tree);
        return unit.getLineMap().getLineNumber(end) - unit.getLineMap().getLineNumber(start) + 1;
    }

    /** The chain of calls from a method that is the longest, a method that comes again not counted. */
    private List<String> deepest(String method, List<String> open) {
        List<String> longest = new ArrayList<>();
        open.add(method);
        for (String each : calls.getOrDefault(method, Set.of())) {
            if (!open.contains(each)) {
                List<String> chain = deepest(each, open);
                longest = chain.size() > longest.size() ? chain : longest;
            }
        }
        open.remove(open.size() - 1);
        longest.add(0, method);
        return longest;
    }

    private static String named(Element element) {
        return ((TypeElement) element.getEnclosingElement()).getQualifiedName() + "." + element.getSimpleName();
    }

    private String method() {
        for (TreePath path = getCurrentPath(); path != null; path = path.getParentPath()) {
            if (path.getLeaf() instanceof MethodTree) {
                return named(trees.getElement(path));
            }
        }
        return "";
    }

    private static String last(String name) {
        return name.substring(name.lastIndexOf('.') + 1);
    }

    @Override
    public Void scan(Tree tree, Void none) {
        if (tree != null) {
            holds("ruled out: " + tree.getKind(), !RULED_OUT.contains(tree.getKind()), tree);
        }
        return super.scan(tree, none);
    }

    @Override
    public Void visitClass(ClassTree tree, Void none) {
        Element element = trees.getElement(getCurrentPath());
        classes++;
        boolean outer = element.getSimpleName().contentEquals("WinnerDraws");
        Set<Modifier> modifiers = element.getModifiers();
        holds("a class inside is private and static", outer || modifiers.contains(Modifier.PRIVATE)
                && modifiers.contains(Modifier.STATIC), tree);
        holds("final", modifiers.contains(Modifier.FINAL), tree);
        return super.visitClass(tree, none);
    }

    @Override
    public Void visitMethod(MethodTree tree, Void none) {
        ExecutableElement element = (ExecutableElement) trees.getElement(getCurrentPath());
        String name = element.getSimpleName().toString();
        boolean constructor = element.getKind() == ElementKind.CONSTRUCTOR;
        boolean open = element.getModifiers().contains(Modifier.PUBLIC);
        if (open && !constructor) {
            publicMethods.add(name);
        }
        holds("private: " + name, open || constructor || element.getModifiers().contains(Modifier.PRIVATE), tree);
        holds("a private method bears a public one's name: " + name, open || !FACE.contains(name), tree);
        holds("at most seven parameters: " + name, tree.getParameters().size() <= 7 || name.equals("would"), tree);
        holds("at most sixty lines: " + name, lines(tree) <= 60, tree);
        calls.putIfAbsent(named(element), new TreeSet<>());
        return super.visitMethod(tree, none);
    }

    @Override
    public Void visitVariable(VariableTree tree, Void none) {
        Element element = trees.getElement(getCurrentPath());
        if (element.getKind() == ElementKind.FIELD) {
            boolean constant = element.getModifiers().contains(Modifier.STATIC);
            String type = ((TypeElement) element.getEnclosingElement()).getSimpleName().toString();
            fields.merge(type, constant ? 0 : 1, Integer::sum);
            holds("static fields are constants", !constant || element.getModifiers().contains(Modifier.FINAL)
                    && element.asType().getKind() == TypeKind.INT, tree);
            holds("private but for NONE", element.getModifiers().contains(Modifier.PRIVATE)
                    || element.getSimpleName().contentEquals("NONE"), tree);
        }
        return super.visitVariable(tree, none);
    }

    @Override
    public Void visitArrayAccess(ArrayAccessTree tree, Void none) {
        holds("an index is looked at by at() and put() alone", Set.of("at", "put").contains(last(method())), tree);
        return super.visitArrayAccess(tree, none);
    }

    @Override
    public Void visitNewArray(NewArrayTree tree, Void none) {
        holds("arrays are made with the object", method().isEmpty(), tree);
        return super.visitNewArray(tree, none);
    }

    @Override
    public Void visitNewClass(NewClassTree tree, Void none) {
        boolean thrown = getCurrentPath().getParentPath().getLeaf() instanceof ThrowTree;
        holds("objects are made with the object", method().isEmpty() || thrown, tree);
        return super.visitNewClass(tree, none);
    }

    @Override
    public Void visitBinary(BinaryTree tree, Void none) {
        boolean divides = tree.getKind() == Tree.Kind.DIVIDE || tree.getKind() == Tree.Kind.REMAINDER;
        String divisor = tree.getRightOperand().toString();
        holds("divisor " + divisor, !divides || divisor.equals("2") || divisor.equals("HUNDRED")
                || DIVIDES.contains(last(method())), tree);
        boolean text = trees.getTypeMirror(getCurrentPath()).getKind() == TypeKind.DECLARED;
        holds("no texts joined by +", !text, tree);
        return super.visitBinary(tree, none);
    }

    @Override
    public Void visitMethodInvocation(MethodInvocationTree tree, Void none) {
        Element element = trees.getElement(getCurrentPath());
        String name = named(element);
        if (name.startsWith("WinnerDraws")) {
            calls.computeIfAbsent(method(), key -> new TreeSet<>()).add(name);
        } else {
            holds("library: " + name, LIBRARY.contains(name), tree);
        }
        return super.visitMethodInvocation(tree, none);
    }
}
