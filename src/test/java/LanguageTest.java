import com.sun.source.tree.BinaryTree;
import com.sun.source.tree.BlockTree;
import com.sun.source.tree.ClassTree;
import com.sun.source.tree.CompilationUnitTree;
import com.sun.source.tree.DoWhileLoopTree;
import com.sun.source.tree.EnhancedForLoopTree;
import com.sun.source.tree.ExpressionTree;
import com.sun.source.tree.ForLoopTree;
import com.sun.source.tree.MethodInvocationTree;
import com.sun.source.tree.MethodTree;
import com.sun.source.tree.NewArrayTree;
import com.sun.source.tree.NewClassTree;
import com.sun.source.tree.ThrowTree;
import com.sun.source.tree.Tree;
import com.sun.source.tree.VariableTree;
import com.sun.source.tree.WhileLoopTree;
import com.sun.source.util.JavacTask;
import com.sun.source.util.TreePathScanner;
import com.sun.source.util.Trees;
import java.io.IOException;
import java.nio.charset.StandardCharsets;
import java.nio.file.Files;
import java.nio.file.Path;
import java.util.ArrayDeque;
import java.util.Deque;
import java.util.HashMap;
import java.util.LinkedHashSet;
import java.util.List;
import java.util.Map;
import java.util.Set;
import java.util.TreeSet;
import javax.lang.model.element.Element;
import javax.lang.model.element.ElementKind;
import javax.lang.model.element.ExecutableElement;
import javax.lang.model.element.Modifier;
import javax.lang.model.element.VariableElement;
import javax.tools.JavaCompiler;
import javax.tools.StandardJavaFileManager;
import javax.tools.ToolProvider;

/** The rules of LANGUAGE.md, by their numbers, asked of the class's source as javac reads it. */
public final class LanguageTest extends TreePathScanner<Void, Void> {
    private static final Path SOURCE = Path.of("src/main/java/Codewordcable.java");
    private static final String NAME = "Codewordcable";
    private static final int LONGEST_METHOD = 60;
    private static final int DEEPEST_CALLS = 8;
    private static final int MOST_PARAMETERS = 7;
    private static final int MOST_CLASSES = 12;
    private static final int MOST_FIELDS = 20;

    /** What the rules leave, as far as the class needs it; a rule leaves more. */
    private static final Set<String> TYPES = Set.of("int", "boolean", "int[]", "boolean[]", "void");
    private static final Set<String> LIBRARY = Set.of("java.lang.Math.min", "java.lang.Math.max",
            "java.lang.Math.floorMod", "java.util.Arrays.fill", "java.util.Arrays.copyOf", "java.lang.Object.<init>");
    private static final Set<String> EXCEPTIONS = Set.of("java.lang.IllegalStateException",
            "java.lang.IllegalArgumentException", "java.lang.IndexOutOfBoundsException");
    private static final Set<Tree.Kind> RULED_OUT = Set.of(Tree.Kind.LAMBDA_EXPRESSION, Tree.Kind.MEMBER_REFERENCE,
            Tree.Kind.TRY, Tree.Kind.CATCH, Tree.Kind.SYNCHRONIZED, Tree.Kind.ASSERT, Tree.Kind.INSTANCE_OF,
            Tree.Kind.TYPE_CAST, Tree.Kind.SWITCH_EXPRESSION, Tree.Kind.YIELD, Tree.Kind.LABELED_STATEMENT,
            Tree.Kind.RECORD, Tree.Kind.ENUM, Tree.Kind.INTERFACE, Tree.Kind.ANNOTATION_TYPE);

    private static final Check check = new Check();

    private final Trees trees;
    private final CompilationUnitTree unit;
    private final Map<Element, Set<Element>> calls = new HashMap<>();
    private final Set<String> makers = new TreeSet<>();
    private final Deque<Tree> loops = new ArrayDeque<>();
    private MethodTree method = null;
    private int classes = 0;

    private LanguageTest(Trees all, CompilationUnitTree read) {
        trees = all;
        unit = read;
    }

    public static void main(String[] args) throws IOException {
        text();
        JavaCompiler compiler = ToolProvider.getSystemJavaCompiler();
        try (StandardJavaFileManager files = compiler.getStandardFileManager(null, null, StandardCharsets.UTF_8)) {
            JavacTask task = (JavacTask) compiler.getTask(null, files, null, List.of("-proc:none"), null,
                    files.getJavaFileObjects(SOURCE));
            CompilationUnitTree unit = task.parse().iterator().next();
            task.analyze();
            LanguageTest test = new LanguageTest(Trees.instance(task), unit);
            test.file();
            test.scan(unit, null);
            test.end();
        }
        check.end();
    }

    private static void holds(String what, boolean is) {
        check.due(what, is, true);
    }

    /** Rule 4: a text's signs are 1 to 127; so are all of the file. */
    private static void text() throws IOException {
        boolean plain = true;
        for (byte sign : Files.readAllBytes(SOURCE)) {
            plain &= sign > 0;
        }
        holds("rule 4: signs of 1 to 127 alone", plain);
    }

    private void file() {
        holds("rule 1: no package line", unit.getPackage() == null);
        check.due("rule 1: one class in the file", unit.getTypeDecls().size(), 1);
        for (var line : unit.getImports()) {
            check.due("rule 4: imported is " + line, line.getQualifiedIdentifier().toString(), "java.util.Arrays");
        }
    }

    private void end() {
        holds("rule 11: " + classes + " classes", classes <= MOST_CLASSES);
        Set<Element> open = new LinkedHashSet<>();
        int deepest = 0;
        for (Element called : calls.keySet()) {
            deepest = Math.max(deepest, depth(called, open));
        }
        holds("rule 11: calls go " + deepest + " deep", deepest <= DEEPEST_CALLS);
        Set<String> makersDue = Set.of("Codewordcable", "Book", "Draft", "Packer", "Net", "Office", "conference",
                "send", "addOffice", "addCable");
        for (String maker : makers) {
            holds("rule 12: makes an object in " + maker, makersDue.contains(maker));
        }
    }

    /** Rule 8: no method calls itself, by others or straight. */
    private int depth(Element called, Set<Element> open) {
        if (!open.add(called)) {
            holds("rule 8: calls itself: " + called, false);
            return 0;
        }
        int deepest = 0;
        for (Element next : calls.getOrDefault(called, Set.of())) {
            deepest = Math.max(deepest, depth(next, open));
        }
        open.remove(called);
        return deepest + 1;
    }

    private long line(Tree tree) {
        return unit.getLineMap().getLineNumber(trees.getSourcePositions().getStartPosition(unit, tree));
    }

    private long lastLine(Tree tree) {
        return unit.getLineMap().getLineNumber(trees.getSourcePositions().getEndPosition(unit, tree));
    }

    private boolean isOwn(Element element) {
        return (element + ".").startsWith(NAME + ".");
    }

    @Override
    public Void scan(Tree tree, Void none) {
        if (tree != null && RULED_OUT.contains(tree.getKind())) {
            holds("rules 2, 3, 6: " + tree.getKind() + " in line " + line(tree), false);
        }
        return super.scan(tree, none);
    }

    @Override
    public Void visitClass(ClassTree tree, Void none) {
        classes++;
        String name = tree.getSimpleName().toString();
        Set<Modifier> is = tree.getModifiers().getFlags();
        holds("rule 2: no local class, and none without a name: line " + line(tree), method == null);
        if (!name.equals(NAME)) {
            holds("rule 1: private and static: " + name,
                    is.contains(Modifier.PRIVATE) && is.contains(Modifier.STATIC));
        }
        int fields = 0;
        for (Tree member : tree.getMembers()) {
            boolean fixed = member instanceof VariableTree field
                    && field.getModifiers().getFlags().contains(Modifier.STATIC);
            fields += member instanceof VariableTree && !fixed ? 1 : 0;
            holds("rule 5: no block in " + name, !(member instanceof BlockTree));
        }
        holds("rule 11: " + fields + " fields in " + name, fields <= MOST_FIELDS);
        return super.visitClass(tree, none);
    }

    @Override
    public Void visitMethod(MethodTree tree, Void none) {
        MethodTree outer = method;
        method = tree;
        Element element = trees.getElement(getCurrentPath());
        calls.computeIfAbsent(element, e -> new LinkedHashSet<>());
        String name = element.getEnclosingElement().getSimpleName() + "." + tree.getName();
        holds("rule 11: lines of " + name, lastLine(tree) - line(tree) < LONGEST_METHOD);
        holds("rule 11: parameters of " + name, tree.getParameters().size() <= MOST_PARAMETERS);
        holds("rule 6: equals, hashCode or toString: " + name,
                !Set.of("equals", "hashCode", "toString").contains(tree.getName().toString()));
        super.visitMethod(tree, none);
        method = outer;
        return null;
    }

    @Override
    public Void visitVariable(VariableTree tree, Void none) {
        VariableElement element = (VariableElement) trees.getElement(getCurrentPath());
        String type = element.asType().toString();
        holds("rule 3: " + type + " in line " + line(tree),
                TYPES.contains(type) || type.startsWith(NAME + ".") && !type.contains("[][]"));
        if (element.getModifiers().contains(Modifier.STATIC)) {
            holds("rule 5: a constant in line " + line(tree), element.getConstantValue() != null);
        }
        return super.visitVariable(tree, none);
    }

    @Override
    public Void visitMethodInvocation(MethodInvocationTree tree, Void none) {
        called(trees.getElement(getCurrentPath()), tree);
        return super.visitMethodInvocation(tree, none);
    }

    private void called(Element element, Tree tree) {
        Element owner = element.getEnclosingElement();
        String name = owner + "." + element.getSimpleName();
        if (isOwn(owner) && method != null) {
            Element caller = trees.getElement(trees.getPath(unit, method));
            calls.get(caller).add(element);
        } else {
            holds("rule 4: " + name + " in line " + line(tree), LIBRARY.contains(name));
        }
    }

    @Override
    public Void visitNewClass(NewClassTree tree, Void none) {
        ExecutableElement made = (ExecutableElement) trees.getElement(getCurrentPath());
        Element owner = made.getEnclosingElement();
        holds("rule 12: made in a loop: line " + line(tree), loops.isEmpty());
        if (isOwn(owner)) {
            called(made, tree);
            makes();
        } else {
            boolean thrown = getCurrentPath().getParentPath().getLeaf() instanceof ThrowTree;
            holds("rule 6: " + owner + " in line " + line(tree), thrown && EXCEPTIONS.contains(owner.toString()));
            for (ExpressionTree argument : tree.getArguments()) {
                check.due("rule 6: a written text in line " + line(tree), argument.getKind() + "", "STRING_LITERAL");
            }
        }
        return super.visitNewClass(tree, none);
    }

    private void makes() {
        holds("rule 5: nothing made outside of methods", method != null);
        if (method == null) {
            return;
        }
        Element maker = trees.getElement(trees.getPath(unit, method));
        boolean isMaker = maker.getKind() == ElementKind.CONSTRUCTOR;
        makers.add((isMaker ? maker.getEnclosingElement() : maker).getSimpleName().toString());
    }

    @Override
    public Void visitNewArray(NewArrayTree tree, Void none) {
        holds("rule 12: a row made in a loop: line " + line(tree), loops.isEmpty());
        makes();
        return super.visitNewArray(tree, none);
    }

    @Override
    public Void visitThrow(ThrowTree tree, Void none) {
        Element element = trees.getElement(trees.getPath(unit, method));
        holds("rule 6: no throw in a constructor: line " + line(tree),
                element.getKind() != ElementKind.CONSTRUCTOR);
        holds("rule 6: only the face throws: line " + line(tree),
                element.getModifiers().contains(Modifier.PUBLIC));
        return super.visitThrow(tree, none);
    }

    @Override
    public Void visitBinary(BinaryTree tree, Void none) {
        String type = trees.getTypeMirror(getCurrentPath()) + "";
        holds("rules 3, 10: " + type + " in line " + line(tree), TYPES.contains(type));
        return super.visitBinary(tree, none);
    }

    /** Rule 9: a bound that stands in the loop's own lines. */
    private void bounded(Tree tree, ExpressionTree condition) {
        boolean open = condition == null || Set.of("true", "(true)").contains(condition.toString());
        holds("rule 9: the end of the loop in line " + line(tree), !open);
    }

    @Override
    public Void visitForLoop(ForLoopTree tree, Void none) {
        bounded(tree, tree.getCondition());
        check.due("rule 9: one counter of the loop in line " + line(tree), tree.getUpdate().size(), 1);
        loops.push(tree);
        super.visitForLoop(tree, none);
        loops.pop();
        return null;
    }

    @Override
    public Void visitWhileLoop(WhileLoopTree tree, Void none) {
        bounded(tree, tree.getCondition());
        loops.push(tree);
        super.visitWhileLoop(tree, none);
        loops.pop();
        return null;
    }

    @Override
    public Void visitDoWhileLoop(DoWhileLoopTree tree, Void none) {
        bounded(tree, tree.getCondition());
        loops.push(tree);
        super.visitDoWhileLoop(tree, none);
        loops.pop();
        return null;
    }

    @Override
    public Void visitEnhancedForLoop(EnhancedForLoopTree tree, Void none) {
        loops.push(tree);
        super.visitEnhancedForLoop(tree, none);
        loops.pop();
        return null;
    }
}
