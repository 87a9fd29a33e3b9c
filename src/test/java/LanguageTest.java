import com.sun.source.tree.AssignmentTree;
import com.sun.source.tree.BinaryTree;
import com.sun.source.tree.ClassTree;
import com.sun.source.tree.CompilationUnitTree;
import com.sun.source.tree.CompoundAssignmentTree;
import com.sun.source.tree.ExpressionTree;
import com.sun.source.tree.ForLoopTree;
import com.sun.source.tree.ImportTree;
import com.sun.source.tree.LiteralTree;
import com.sun.source.tree.MethodInvocationTree;
import com.sun.source.tree.MethodTree;
import com.sun.source.tree.NewArrayTree;
import com.sun.source.tree.NewClassTree;
import com.sun.source.tree.ThrowTree;
import com.sun.source.tree.Tree;
import com.sun.source.tree.VariableTree;
import com.sun.source.tree.WhileLoopTree;
import com.sun.source.util.JavacTask;
import com.sun.source.util.SourcePositions;
import com.sun.source.util.TreePath;
import com.sun.source.util.TreePathScanner;
import com.sun.source.util.Trees;
import java.io.IOException;
import java.util.ArrayList;
import java.util.LinkedHashMap;
import java.util.LinkedHashSet;
import java.util.List;
import java.util.Map;
import java.util.Set;
import java.util.TreeSet;
import javax.lang.model.element.Element;
import javax.lang.model.element.ElementKind;
import javax.lang.model.element.ExecutableElement;
import javax.lang.model.element.Modifier;
import javax.lang.model.element.VariableElement;
import javax.tools.JavaCompiler;
import javax.tools.StandardJavaFileManager;
import javax.tools.ToolProvider;

/**
 * The rules of LANGUAGE.md, seen in the program's text as javac reads it. Where a rule leaves a choice, the program's
 * own choice is written out here, so that whoever widens it looks at the rule first. (Rule 7 is seen by calling, too:
 * no test may be answered by an exception of the machine.)
 */
public final class LanguageTest extends TreePathScanner<Void, Void> {
    private static final String PROGRAM = "src/main/java/HiringHall.java";
    private static final Set<String> LIBRARY = Set.of("java.util.ArrayList.add(E)", "java.util.ArrayList.add(int,E)",
            "java.util.ArrayList.get(int)", "java.util.ArrayList.set(int,E)", "java.util.ArrayList.remove(int)",
            "java.util.ArrayList.size()", "java.util.ArrayList.clear()", "java.lang.Math.max(int,int)",
            "java.lang.Object.Object()");
    private static final String TYPES = "void|int|boolean|(int|boolean)\\[\\]|HiringHall\\.\\w+"
            + "|java\\.util\\.ArrayList<HiringHall\\.\\w+>";
    private static final String THROWN = "IllegalArgumentException|IllegalStateException|NoSuchElementException";
    /** What has no place in the program: by rule 2, 6, 7 (a divisor, a cast) or 9, or because it needs none. */
    private static final Set<Tree.Kind> KINDS_RULED_OUT = Set.of(Tree.Kind.LAMBDA_EXPRESSION,
            Tree.Kind.MEMBER_REFERENCE, Tree.Kind.TRY, Tree.Kind.CATCH, Tree.Kind.SYNCHRONIZED, Tree.Kind.ASSERT,
            Tree.Kind.ANNOTATION, Tree.Kind.BLOCK, Tree.Kind.DIVIDE, Tree.Kind.REMAINDER, Tree.Kind.DIVIDE_ASSIGNMENT,
            Tree.Kind.REMAINDER_ASSIGNMENT, Tree.Kind.TYPE_CAST, Tree.Kind.INSTANCE_OF, Tree.Kind.DO_WHILE_LOOP,
            Tree.Kind.ENHANCED_FOR_LOOP, Tree.Kind.DOUBLE_LITERAL, Tree.Kind.FLOAT_LITERAL, Tree.Kind.PACKAGE);

    private final CompilationUnitTree unit;
    private final Trees trees;
    private final Map<String, Set<String>> callsOf = new LinkedHashMap<>();
    private final Set<String> publicNames = new TreeSet<>();
    private int classes = 0;

    private LanguageTest(JavacTask task) throws IOException {
        unit = task.parse().iterator().next();
        task.analyze();
        trees = Trees.instance(task);
    }

    public static void main(String[] args) throws IOException {
        JavaCompiler compiler = ToolProvider.getSystemJavaCompiler();
        try (StandardJavaFileManager files = compiler.getStandardFileManager(null, null, null)) {
            JavacTask task = (JavacTask) compiler.getTask(null, files, null, List.of("-proc:none"), null,
                    files.getJavaFileObjects(PROGRAM));
            new LanguageTest(task).run();
        }
        Check.end("LanguageTest");
    }

    private void run() {
        Check.due("rule 1: one class in the file", 1, unit.getTypeDecls().size());
        namePublicMethods((ClassTree) unit.getTypeDecls().get(0));
        scan(unit, null);
        Check.due("rule 11: some twelve classes: " + classes, true, classes <= 12);
        Check.due("methods are found", true, callsOf.size() > 26);
        for (String method : callsOf.keySet()) {
            Check.due("rules 8 and 11: no recursion, at most eight deep: " + method, true, depthOf(method, 0) <= 8);
        }
    }

    private void namePublicMethods(ClassTree program) {
        for (Tree member : program.getMembers()) {
            if (member instanceof MethodTree && modifiers((MethodTree) member).contains(Modifier.PUBLIC)) {
                publicNames.add(((MethodTree) member).getName().toString());
            }
        }
    }

    /** Ends for a method that comes back to itself, too. */
    private int depthOf(String method, int above) {
        int deepest = 0;
        for (String called : callsOf.getOrDefault(method, Set.of())) {
            deepest = above > 8 ? 9 : Math.max(deepest, depthOf(called, above + 1));
        }
        return deepest + 1;
    }

    private static Set<Modifier> modifiers(MethodTree method) {
        return method.getModifiers().getFlags();
    }

    private void due(String rule, Tree where, boolean kept) {
        long line = unit.getLineMap().getLineNumber(positions().getStartPosition(unit, where));
        Check.due(rule + ", at line " + line, true, kept);
    }

    private SourcePositions positions() {
        return trees.getSourcePositions();
    }

    private Element element(Tree tree) {
        return trees.getElement(TreePath.getPath(unit, tree));
    }

    private String type(Tree tree) {
        return String.valueOf(trees.getTypeMirror(TreePath.getPath(unit, tree)));
    }

    // ---- what the rules say of each part of the text

    @Override
    public Void scan(Tree tree, Void none) {
        boolean isBody = tree != null && tree.getKind() == Tree.Kind.BLOCK
                && getCurrentPath().getLeaf().getKind() != Tree.Kind.CLASS;
        if (tree != null && !isBody) {
            due("rules 2, 6, 7, 9: no " + tree.getKind(), tree, !KINDS_RULED_OUT.contains(tree.getKind()));
        }
        return super.scan(tree, none);
    }

    @Override
    public Void visitImport(ImportTree tree, Void none) {
        String name = tree.getQualifiedIdentifier().toString();
        due("rule 4: import of " + name, tree, name.matches("java\\.util\\.(ArrayList|NoSuchElementException)"));
        return super.visitImport(tree, none);
    }

    @Override
    public Void visitClass(ClassTree tree, Void none) {
        classes++;
        Set<Modifier> flags = tree.getModifiers().getFlags();
        boolean isInside = getCurrentPath().getParentPath().getLeaf() != unit;
        boolean stands = getCurrentPath().getParentPath().getLeaf().getKind() != Tree.Kind.BLOCK;
        due("rules 1 and 2: " + tree.getSimpleName(), tree, stands && isInside == flags.contains(Modifier.PRIVATE)
                && isInside == flags.contains(Modifier.STATIC) && isInside != flags.contains(Modifier.PUBLIC)
                && flags.contains(Modifier.FINAL) && tree.getExtendsClause() == null);
        long fields = tree.getMembers().stream().filter(member -> member instanceof VariableTree)
                .filter(member -> !((VariableTree) member).getModifiers().getFlags().contains(Modifier.STATIC)).count();
        due("rule 11: some twenty fields: " + fields, tree, fields <= 20);
        return super.visitClass(tree, none);
    }

    @Override
    public Void visitVariable(VariableTree tree, Void none) {
        Set<Modifier> flags = tree.getModifiers().getFlags();
        Tree owner = getCurrentPath().getParentPath().getLeaf();
        due("rule 3: the type of " + tree.getName(), tree, type(tree).matches(TYPES));
        if (owner == unit.getTypeDecls().get(0)) {
            due("rule 1: " + tree.getName() + " is seen", tree,
                    flags.contains(Modifier.PRIVATE) != tree.getName().contentEquals("NONE"));
        }
        if (flags.contains(Modifier.STATIC)) {
            due("rule 5: " + tree.getName() + " is a constant", tree, flags.contains(Modifier.FINAL)
                    && ((VariableElement) element(tree)).getConstantValue() != null);
        }
        return super.visitVariable(tree, none);
    }

    @Override
    public Void visitMethod(MethodTree tree, Void none) {
        String name = tree.getName().toString();
        boolean isOfFace = element(tree).getEnclosingElement().toString().equals("HiringHall");
        boolean isPublic = modifiers(tree).contains(Modifier.PUBLIC);
        callsOf.put(told((ExecutableElement) element(tree)), new LinkedHashSet<>());
        if (isOfFace) {
            due("rule 1: " + name + " is public or private", tree,
                    isPublic || modifiers(tree).contains(Modifier.PRIVATE));
        }
        if (!isPublic && !name.equals("<init>")) {
            due("rule 1: the name of a public method: " + name, tree, !publicNames.contains(name));
        }
        due("rule 6: no equals, hashCode or toString", tree, !name.matches("equals|hashCode|toString"));
        due("rule 3: the type of " + name, tree,
                tree.getReturnType() == null || type(tree.getReturnType()).matches(TYPES));
        due("rule 11: at most seven parameters", tree, tree.getParameters().size() <= 7);
        due("rule 11: some sixty lines", tree, linesOf(tree) <= 60);
        return super.visitMethod(tree, none);
    }

    private long linesOf(Tree tree) {
        return unit.getLineMap().getLineNumber(positions().getEndPosition(unit, tree))
                - unit.getLineMap().getLineNumber(positions().getStartPosition(unit, tree)) + 1;
    }

    private static String told(ExecutableElement method) {
        String name = method.getKind() == ElementKind.CONSTRUCTOR
                ? method.getEnclosingElement().getSimpleName().toString() : method.getSimpleName().toString();
        List<String> types = new ArrayList<>();
        for (VariableElement parameter : method.getParameters()) {
            types.add(parameter.asType().toString());
        }
        return method.getEnclosingElement() + "." + name + "(" + String.join(",", types) + ")";
    }

    @Override
    public Void visitMethodInvocation(MethodInvocationTree tree, Void none) {
        String called = told((ExecutableElement) element(tree));
        due("rule 4: the call of " + called, tree, called.startsWith("HiringHall.") || LIBRARY.contains(called));
        noteCall(called);
        return super.visitMethodInvocation(tree, none);
    }

    private void noteCall(String called) {
        Tree caller = within(MethodTree.class);
        if (caller != null) {
            callsOf.get(told((ExecutableElement) element(caller))).add(called);
        }
    }

    /** The nearest part of that kind round the one that is looked at, or null. */
    private Tree within(Class<? extends Tree> kind) {
        for (Tree round : getCurrentPath()) {
            if (kind.isInstance(round)) {
                return round;
            }
        }
        return null;
    }

    @Override
    public Void visitThrow(ThrowTree tree, Void none) {
        MethodTree method = (MethodTree) within(MethodTree.class);
        due("rule 6: no throw in a constructor", tree, method != null && method.getReturnType() != null);
        due("rule 6: " + tree, tree, tree.toString().matches("throw new (" + THROWN + ")\\(\"[^\"]*\"\\);?"));
        String clause = method == null ? "" : method.getThrows().toString();
        String thrown = type(tree.getExpression()).replaceAll(".*\\.", "");
        due("rule 6: " + thrown + " is in the throws clause", tree, clause.contains(thrown));
        return super.visitThrow(tree, none);
    }

    @Override
    public Void visitNewClass(NewClassTree tree, Void none) {
        String made = tree.getIdentifier().toString();
        boolean isThrown = within(ThrowTree.class) != null;
        due("rule 2: no class without a name", tree, tree.getClassBody() == null);
        due("rules 4 and 6: new " + made, tree, isThrown
                || made.matches("ArrayList<Worker>") && tree.getArguments().isEmpty()
                || type(tree).startsWith("HiringHall."));
        due("rule 12: made with the hall, or a worker signed on", tree, isThrown || made.equals("Worker")
                || within(MethodTree.class) == null);
        due("rule 12: not made in a loop", tree, isThrown
                || within(ForLoopTree.class) == null && within(WhileLoopTree.class) == null);
        noteCall(told((ExecutableElement) element(tree)));
        return super.visitNewClass(tree, none);
    }

    @Override
    public Void visitNewArray(NewArrayTree tree, Void none) {
        due("rule 12: made with the hall", tree, within(MethodTree.class) == null);
        due("rule 3: of one dimension", tree, tree.getDimensions().size() == 1 && tree.getInitializers() == null);
        for (ExpressionTree length : tree.getDimensions()) {
            Element constant = element(length);
            due("rule 7: the length is a constant", tree, constant instanceof VariableElement
                    && ((VariableElement) constant).getConstantValue() instanceof Integer);
        }
        return super.visitNewArray(tree, none);
    }

    @Override
    public Void visitForLoop(ForLoopTree tree, Void none) {
        boolean counts = tree.getInitializer().size() == 1 && tree.getUpdate().size() == 1
                && tree.getInitializer().get(0) instanceof VariableTree && tree.getCondition() != null;
        due("rule 9: a counter", tree, counts);
        if (counts) {
            String counter = ((VariableTree) tree.getInitializer().get(0)).getName().toString();
            String update = tree.getUpdate().get(0).toString().replace(";", "");
            boolean rises = update.equals(counter + "++") && tree.getCondition().toString().contains(counter + " < ");
            boolean falls = update.equals(counter + "--") && tree.getCondition().toString().contains(counter + " > 0");
            due("rule 9: the counter against a bound", tree, rises || falls);
            due("rule 9: the counter counts nowhere else", tree, !isSet(counter, tree.getStatement()));
        }
        return super.visitForLoop(tree, none);
    }

    @Override
    public Void visitWhileLoop(WhileLoopTree tree, Void none) {
        String counter = tree.getCondition().toString().replaceAll("^\\((\\w+) < .*", "$1");
        due("rule 9: a counter against a bound: " + counter, tree, counter.matches("\\w+"));
        due("rule 9: the counter rises each time", tree,
                tree.getStatement().toString().matches("\\{\\s*" + counter + "\\+\\+;\\s*\\}"));
        return super.visitWhileLoop(tree, none);
    }

    private static boolean isSet(String name, Tree tree) {
        return tree.toString().matches("(?s).*\\b" + name + "(\\+\\+|--| [-+*&|^]?= ).*");
    }

    @Override
    public Void visitBinary(BinaryTree tree, Void none) {
        due("rule 10: no text is joined by +", tree, !type(tree).equals("java.lang.String"));
        return super.visitBinary(tree, none);
    }

    @Override
    public Void visitCompoundAssignment(CompoundAssignmentTree tree, Void none) {
        due("rule 10: no text is joined by +=", tree, !type(tree).equals("java.lang.String"));
        return super.visitCompoundAssignment(tree, none);
    }

    @Override
    public Void visitAssignment(AssignmentTree tree, Void none) {
        due("rule 7: nothing becomes null", tree, tree.getExpression().getKind() != Tree.Kind.NULL_LITERAL);
        return super.visitAssignment(tree, none);
    }

    @Override
    public Void visitLiteral(LiteralTree tree, Void none) {
        String text = tree.getValue() instanceof String ? (String) tree.getValue() : "";
        due("rule 4: the signs of texts", tree, text.chars().allMatch(sign -> sign >= 1 && sign <= 127));
        due("rule 7: nothing is null", tree, tree.getKind() != Tree.Kind.NULL_LITERAL);
        return super.visitLiteral(tree, none);
    }
}
