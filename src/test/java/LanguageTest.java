import com.sun.source.tree.*;
import com.sun.source.util.JavacTask;
import com.sun.source.util.TreePath;
import com.sun.source.util.TreePathScanner;
import com.sun.source.util.Trees;
import java.io.IOException;
import java.nio.file.Path;
import java.util.List;
import java.util.Map;
import java.util.Set;
import java.util.TreeMap;
import java.util.TreeSet;
import javax.lang.model.element.Element;
import javax.lang.model.element.ElementKind;
import javax.lang.model.element.Modifier;
import javax.lang.model.element.VariableElement;
import javax.lang.model.type.TypeKind;
import javax.lang.model.type.TypeMirror;
import javax.tools.JavaCompiler;
import javax.tools.StandardJavaFileManager;
import javax.tools.ToolProvider;

/*
 * ../shared/LANGUAGE.md rule by rule, by the trees that javac makes of src/main/java/OvenLies.java. Where the class does
 * without something that a rule would leave, the test is the narrower one. Rule 1 is FaceTest's.
 */
public final class LanguageTest extends TreePathScanner<Void, Void> {
    private static final Path SOURCE = Path.of("src/main/java/OvenLies.java");

    private static final int MOST_CLASSES = 12, MOST_FIELDS = 20, MOST_PARAMETERS = 7, MOST_LINES = 60, MOST_DEEP = 8;

    /* Rules 2 and 6, and what the class does without. */
    private static final Set<Tree.Kind> NOT_THERE = Set.of(Tree.Kind.THROW, Tree.Kind.TRY, Tree.Kind.CATCH,
        Tree.Kind.SYNCHRONIZED, Tree.Kind.ASSERT, Tree.Kind.INSTANCE_OF, Tree.Kind.LAMBDA_EXPRESSION,
        Tree.Kind.MEMBER_REFERENCE, Tree.Kind.IMPORT, Tree.Kind.PACKAGE, Tree.Kind.ANNOTATION, Tree.Kind.RECORD,
        Tree.Kind.ENUM, Tree.Kind.INTERFACE, Tree.Kind.SWITCH_EXPRESSION, Tree.Kind.DO_WHILE_LOOP,
        Tree.Kind.ENHANCED_FOR_LOOP, Tree.Kind.FLOAT_LITERAL, Tree.Kind.DOUBLE_LITERAL, Tree.Kind.TYPE_PARAMETER);

    /* Rule 4: all of the library that is called. */
    private static final Set<String> LIBRARY = Set.of("java.lang.String.length", "java.lang.String.charAt",
        "java.lang.Math.max");

    /* Rule 7: where rows are looked into by an index; each one of these looks at it first. */
    private static final Set<String> LOOK_AT_THE_INDEX = Set.of("OvenLies.<init>", "OvenLies.cell", "OvenLies.put",
        "OvenLies.copyRow", "OvenLies.image", "OvenLies.from", "OvenLies.hasImage", "Past.dropOldest", "Reader.append",
        "Reader.byteAt");

    private static final Due due = new Due();

    private final Trees trees;
    private final CompilationUnitTree unit;
    private final Map<String, Set<String>> calls = new TreeMap<>();
    private final Map<String, Boolean> staticOnes = new TreeMap<>();
    private int classes = 0;

    private LanguageTest(Trees trees, CompilationUnitTree unit) {
        this.trees = trees;
        this.unit = unit;
    }

    private Element element() {
        return trees.getElement(getCurrentPath());
    }

    private TypeMirror typeOf(Tree tree) {
        return trees.getTypeMirror(new TreePath(getCurrentPath(), tree));
    }

    private String at(Tree tree) {
        return "line " + unit.getLineMap().getLineNumber(trees.getSourcePositions().getStartPosition(unit, tree));
    }

    private void rule(int number, String what, Tree where, boolean kept) {
        due.is("rule " + number + ": " + what + ", " + at(where), kept ? 1 : 0, 1);
    }

    private static String nameOf(Element method) {
        return method.getEnclosingElement().getSimpleName() + "." + method.getSimpleName();
    }

    /* The method that this stands in, or none: then it stands in a field. */
    private String method() {
        for (TreePath path = getCurrentPath(); path != null; path = path.getParentPath()) {
            if (path.getLeaf() instanceof MethodTree) return nameOf(trees.getElement(path));
        }
        return "";
    }

    private int loopsAround() {
        int loops = 0;
        for (TreePath path = getCurrentPath(); path != null; path = path.getParentPath()) {
            Tree.Kind kind = path.getLeaf().getKind();
            if (kind == Tree.Kind.FOR_LOOP || kind == Tree.Kind.WHILE_LOOP) loops++;
        }
        return loops;
    }

    @Override
    public Void scan(Tree tree, Void none) {
        if (tree != null) rule(6, "no " + tree.getKind(), tree, !NOT_THERE.contains(tree.getKind()));
        return super.scan(tree, none);
    }

    @Override
    public Void visitClass(ClassTree tree, Void none) {
        classes++;
        Tree around = getCurrentPath().getParentPath().getLeaf();
        rule(2, "no local and no anonymous class", tree,
            around instanceof CompilationUnitTree || around instanceof ClassTree);
        rule(6, "nothing above it, no interface", tree,
            tree.getExtendsClause() == null && tree.getImplementsClause().isEmpty());
        int fields = 0;
        for (Tree member : tree.getMembers()) {
            rule(5, "no initialiser block", member, member.getKind() != Tree.Kind.BLOCK);
            if (member instanceof VariableTree field && !field.getModifiers().getFlags().contains(Modifier.STATIC)) fields++;
        }
        rule(11, "some twenty fields: " + fields, tree, fields <= MOST_FIELDS);
        return super.visitClass(tree, none);
    }

    @Override
    public Void visitVariable(VariableTree tree, Void none) {
        rule(3, "a type that is left: " + tree, tree, isLeft(trees.getTypeMirror(getCurrentPath())));
        if (element().getKind() == ElementKind.FIELD && tree.getModifiers().getFlags().contains(Modifier.STATIC)) {
            rule(5, "final: " + tree, tree, tree.getModifiers().getFlags().contains(Modifier.FINAL));
            rule(5, "a constant: " + tree, tree, ((VariableElement) element()).getConstantValue() != null);
        }
        return super.visitVariable(tree, none);
    }

    /* int, long, boolean, char, String, own classes, rows of these of one dimension. */
    private static boolean isLeft(TypeMirror type) {
        if (type.getKind() == TypeKind.ARRAY) {
            String row = type.toString();
            return row.indexOf('[') == row.lastIndexOf('[') && !row.startsWith("java");
        }
        if (type.getKind() == TypeKind.DECLARED) {
            return type.toString().equals("java.lang.String") || type.toString().startsWith("OvenLies");
        }
        return Set.of(TypeKind.INT, TypeKind.LONG, TypeKind.BOOLEAN, TypeKind.CHAR).contains(type.getKind());
    }

    @Override
    public Void visitMethod(MethodTree tree, Void none) {
        String name = nameOf(element());
        calls.put(name, new TreeSet<>());
        staticOnes.put(name, tree.getModifiers().getFlags().contains(Modifier.STATIC));
        rule(11, "at most seven parameters: " + name, tree, tree.getParameters().size() <= MOST_PARAMETERS);
        LineMap lines = unit.getLineMap();
        long first = lines.getLineNumber(trees.getSourcePositions().getStartPosition(unit, tree));
        long last = lines.getLineNumber(trees.getSourcePositions().getEndPosition(unit, tree));
        rule(11, "some sixty lines: " + name, tree, last - first < MOST_LINES);
        rule(6, "no throws: " + name, tree, tree.getThrows().isEmpty());
        rule(6, "no equals, hashCode, toString", tree,
            !Set.of("equals", "hashCode", "toString").contains(tree.getName().toString()));
        return super.visitMethod(tree, none);
    }

    @Override
    public Void visitMethodInvocation(MethodInvocationTree tree, Void none) {
        Element called = element();
        String where = called.getEnclosingElement().toString();
        if (where.startsWith("OvenLies")) {
            if (!method().isEmpty()) calls.get(method()).add(nameOf(called));
        } else {
            boolean above = where.equals("java.lang.Object") && called.getKind() == ElementKind.CONSTRUCTOR;
            rule(4, "left of the library: " + where + "." + called.getSimpleName(), tree,
                above || LIBRARY.contains(where + "." + called.getSimpleName()));
        }
        return super.visitMethodInvocation(tree, none);
    }

    @Override
    public Void visitNewClass(NewClassTree tree, Void none) {
        String where = method();
        rule(12, "an object is made with the others, not by a call", tree, where.isEmpty() || where.endsWith(".<init>"));
        rule(2, "no anonymous class", tree, tree.getClassBody() == null);
        rule(3, "an own class", tree, trees.getElement(new TreePath(getCurrentPath(), tree.getIdentifier())).toString()
            .startsWith("OvenLies"));
        if (!where.isEmpty()) calls.get(where).add(nameOf(element()));
        return super.visitNewClass(tree, none);
    }

    @Override
    public Void visitNewArray(NewArrayTree tree, Void none) {
        String where = method();
        rule(12, "a row is made with its object, not by a call", tree, where.isEmpty() || where.endsWith(".<init>"));
        rule(12, "no row in a loop", tree, loopsAround() == 0);
        rule(3, "of one dimension, its length told", tree, tree.getDimensions().size() == 1);
        return super.visitNewArray(tree, none);
    }

    @Override
    public Void visitArrayAccess(ArrayAccessTree tree, Void none) {
        rule(7, "an index is looked at first: " + method(), tree, LOOK_AT_THE_INDEX.contains(method()));
        return super.visitArrayAccess(tree, none);
    }

    @Override
    public Void visitBinary(BinaryTree tree, Void none) {
        if (tree.getKind() == Tree.Kind.DIVIDE || tree.getKind() == Tree.Kind.REMAINDER) {
            boolean fixed = tree.getRightOperand() instanceof LiteralTree literal
                && ((Number) literal.getValue()).longValue() != 0;
            rule(7, "a divisor that is not 0: " + tree, tree, fixed || looksAtTheDivisor(tree));
        }
        if (tree.getKind() == Tree.Kind.PLUS) {
            rule(10, "no joining of texts by +", tree, !typeOf(tree.getLeftOperand()).toString().contains("String")
                && !typeOf(tree.getRightOperand()).toString().contains("String"));
        }
        return super.visitBinary(tree, none);
    }

    /* The loop of commonDivisor goes on only while y is not 0, trues divides only by more than 0. */
    private boolean looksAtTheDivisor(BinaryTree tree) {
        String test = "";
        for (TreePath path = getCurrentPath(); path != null; path = path.getParentPath()) {
            if (path.getLeaf() instanceof ForLoopTree loop) test = test + loop.getCondition();
            if (path.getLeaf() instanceof IfTree tested) test = test + tested.getCondition();
        }
        return test.contains(tree.getRightOperand() + " != 0") || test.contains(tree.getRightOperand() + " > 0");
    }

    @Override
    public Void visitCompoundAssignment(CompoundAssignmentTree tree, Void none) {
        rule(7, "no dividing by /= or %=", tree,
            tree.getKind() != Tree.Kind.DIVIDE_ASSIGNMENT && tree.getKind() != Tree.Kind.REMAINDER_ASSIGNMENT);
        return super.visitCompoundAssignment(tree, none);
    }

    @Override
    public Void visitTypeCast(TypeCastTree tree, Void none) {
        rule(6, "a cast among numbers alone", tree, tree.getType() instanceof PrimitiveTypeTree);
        return super.visitTypeCast(tree, none);
    }

    @Override
    public Void visitForLoop(ForLoopTree tree, Void none) {
        rule(9, "a counter against a bound", tree, tree.getCondition() != null && tree.getUpdate().size() == 1
            && Set.of(Tree.Kind.POSTFIX_INCREMENT, Tree.Kind.POSTFIX_DECREMENT)
                .contains(tree.getUpdate().get(0).getExpression().getKind()));
        return super.visitForLoop(tree, none);
    }

    @Override
    public Void visitWhileLoop(WhileLoopTree tree, Void none) {
        String test = tree.getCondition().toString();
        rule(9, "a counter against a bound: " + test, tree, Set.of("m < MOST_DAYS", "items <= MOST_BYTES",
            "place < length").stream().anyMatch(test::contains));
        return super.visitWhileLoop(tree, none);
    }

    @Override
    public Void visitLiteral(LiteralTree tree, Void none) {
        if (tree.getValue() instanceof String text) {
            rule(4, "signs 1 to 127", tree, text.chars().allMatch(c -> c >= 1 && c <= 127));
        }
        return super.visitLiteral(tree, none);
    }

    /* Rules 8 and 11: only static methods call themselves, no two call one another, the others go eight deep at most. */
    private void depths() {
        for (String name : calls.keySet()) {
            boolean itself = calls.get(name).contains(name);
            due.is("rule 8: it calls itself and is static: " + name, itself && !staticOnes.get(name) ? 1 : 0, 0);
            due.is("rule 11: calls open at once from " + name, deepest(name, 0) <= MOST_DEEP ? 1 : 0, 1);
        }
    }

    private int deepest(String name, int above) {
        int most = 1;
        for (String next : calls.get(name)) {
            if (!next.equals(name) && above < 2 * MOST_DEEP && calls.containsKey(next)) {
                most = Math.max(most, 1 + deepest(next, above + 1));
            }
        }
        return most;
    }

    public static void main(String[] args) throws IOException {
        JavaCompiler compiler = ToolProvider.getSystemJavaCompiler();
        try (StandardJavaFileManager files = compiler.getStandardFileManager(null, null, null)) {
            JavacTask task = (JavacTask) compiler.getTask(null, files, null, List.of("-proc:none"), null,
                files.getJavaFileObjects(SOURCE));
            CompilationUnitTree unit = task.parse().iterator().next();
            task.analyze();
            LanguageTest test = new LanguageTest(Trees.instance(task), unit);
            due.is("one public class in the file", unit.getTypeDecls().size(), 1);
            test.scan(unit, null);
            due.is("rule 11: some twelve classes", test.classes <= MOST_CLASSES ? 1 : 0, 1);
            test.depths();
        }
        due.end();
    }
}
