import com.sun.source.tree.ClassTree;
import com.sun.source.tree.CompilationUnitTree;
import com.sun.source.tree.ExpressionTree;
import com.sun.source.tree.IdentifierTree;
import com.sun.source.tree.LineMap;
import com.sun.source.tree.MethodInvocationTree;
import com.sun.source.tree.MethodTree;
import com.sun.source.tree.NewArrayTree;
import com.sun.source.tree.NewClassTree;
import com.sun.source.tree.ThrowTree;
import com.sun.source.tree.Tree;
import com.sun.source.tree.Tree.Kind;
import com.sun.source.tree.VariableTree;
import com.sun.source.util.JavacTask;
import com.sun.source.util.TreePathScanner;
import com.sun.source.util.Trees;
import java.io.IOException;
import java.nio.file.Files;
import java.nio.file.Path;
import java.util.EnumSet;
import java.util.LinkedHashMap;
import java.util.LinkedHashSet;
import java.util.Map;
import java.util.Set;
import java.util.stream.Collectors;
import javax.lang.model.element.Element;
import javax.lang.model.element.ElementKind;
import javax.lang.model.element.Modifier;
import javax.lang.model.type.ArrayType;
import javax.lang.model.type.TypeKind;
import javax.lang.model.type.TypeMirror;
import javax.tools.JavaCompiler;
import javax.tools.StandardJavaFileManager;
import javax.tools.ToolProvider;

/**
 * The rules of LANGUAGE.md that can be seen in the text of the program; FaceTest has rule 1.
 * It lets through what the program uses, not all that the rules allow: a program that uses more widens it first.
 */
public final class LanguageTest extends TreePathScanner<Void, Void> {
    private static final Path SOURCE = Path.of("src/main/java/CombersSociety.java");
    private static final Set<Kind> KINDS = EnumSet.of(
            Kind.COMPILATION_UNIT, Kind.CLASS, Kind.METHOD, Kind.VARIABLE, Kind.MODIFIERS, Kind.BLOCK,
            Kind.IF, Kind.FOR_LOOP, Kind.ENHANCED_FOR_LOOP, Kind.SWITCH, Kind.CASE, Kind.RETURN, Kind.THROW,
            Kind.EXPRESSION_STATEMENT, Kind.PARENTHESIZED, Kind.CONDITIONAL_EXPRESSION, Kind.TYPE_CAST,
            Kind.METHOD_INVOCATION, Kind.NEW_CLASS, Kind.NEW_ARRAY, Kind.ARRAY_ACCESS, Kind.MEMBER_SELECT,
            Kind.IDENTIFIER, Kind.PRIMITIVE_TYPE, Kind.ARRAY_TYPE, Kind.ASSIGNMENT, Kind.PLUS_ASSIGNMENT,
            Kind.MINUS_ASSIGNMENT, Kind.POSTFIX_INCREMENT, Kind.POSTFIX_DECREMENT, Kind.UNARY_MINUS,
            Kind.LOGICAL_COMPLEMENT,
            Kind.PLUS, Kind.MINUS, Kind.MULTIPLY, Kind.DIVIDE, Kind.CONDITIONAL_AND, Kind.CONDITIONAL_OR,
            Kind.EQUAL_TO, Kind.NOT_EQUAL_TO, Kind.LESS_THAN, Kind.GREATER_THAN, Kind.LESS_THAN_EQUAL,
            Kind.GREATER_THAN_EQUAL, Kind.INT_LITERAL, Kind.LONG_LITERAL, Kind.DOUBLE_LITERAL, Kind.BOOLEAN_LITERAL,
            Kind.STRING_LITERAL);
    private static final Set<TypeKind> NUMBERS =
            EnumSet.of(TypeKind.INT, TypeKind.LONG, TypeKind.BOOLEAN, TypeKind.DOUBLE);
    private static final Set<String> LIBRARY = Set.of("Math.min", "Math.max", "Math.floorMod");
    private static final Set<String> EXCEPTIONS =
            Set.of("IllegalStateException", "IllegalArgumentException", "IndexOutOfBoundsException");
    private static final int MOST_CLASSES = 12;
    private static final int MOST_FIELDS = 20;
    private static final int MOST_PARAMETERS = 7;
    private static final int MOST_LINES = 60;
    private static final int MOST_OPEN_CALLS = 8;

    private final CompilationUnitTree unit;
    private final Trees trees;
    private final Map<Element, Set<Element>> calls = new LinkedHashMap<>();
    private int classes = 0;
    private Element method = null;

    private LanguageTest(CompilationUnitTree unit, Trees trees) {
        this.unit = unit;
        this.trees = trees;
    }

    public static void main(String[] args) throws IOException {
        JavaCompiler compiler = ToolProvider.getSystemJavaCompiler();
        try (StandardJavaFileManager files = compiler.getStandardFileManager(null, null, null)) {
            JavacTask task = (JavacTask) compiler.getTask(
                    null, files, null, null, null, files.getJavaFileObjects(SOURCE));
            CompilationUnitTree unit = task.parse().iterator().next();
            task.analyze();
            new LanguageTest(unit, Trees.instance(task)).readAll();
        }
        int odd = (int) Files.readString(SOURCE).chars().filter(sign -> sign < 1 || sign > 127).count();
        Check.same("signs beyond 1 to 127", 0, odd);
        Check.end();
    }

    private void readAll() {
        Check.judge(unit.getPackageName() == null, "the package", "none", "" + unit.getPackageName());
        Check.same("imports", 0, unit.getImports().size());
        Check.same("classes at the top", 1, unit.getTypeDecls().size());
        scan(unit, null);
        Check.judge(classes <= MOST_CLASSES, "classes", "at most " + MOST_CLASSES, "" + classes);
        for (Element first : calls.keySet()) {
            Set<Element> open = new LinkedHashSet<>();
            int deep = depth(first, open);
            Check.judge(deep <= MOST_OPEN_CALLS, "calls deep from " + first, "at most " + MOST_OPEN_CALLS, "" + deep);
        }
    }

    private void judge(boolean isRight, Tree place, String due) {
        long line = 0;
        if (!isRight) {
            line = unit.getLineMap().getLineNumber(trees.getSourcePositions().getStartPosition(unit, place));
        }
        Check.judge(isRight, "line " + line, due, place.getKind() + " " + place);
    }

    @Override
    public Void scan(Tree tree, Void nothing) {
        if (tree != null) {
            judge(KINDS.contains(tree.getKind()), tree, "what the program may use");
        }
        return super.scan(tree, nothing);
    }

    @Override
    public Void visitClass(ClassTree tree, Void nothing) {
        classes++;
        Set<Modifier> modifiers = tree.getModifiers().getFlags();
        Set<Modifier> due = classes == 1 ? Set.of(Modifier.PUBLIC, Modifier.FINAL)
                : Set.of(Modifier.PRIVATE, Modifier.STATIC, Modifier.FINAL);
        judge(modifiers.equals(due), tree, due.toString());
        judge(tree.getExtendsClause() == null && tree.getImplementsClause().isEmpty(), tree, "a class of its own");
        long fields = tree.getMembers().stream().filter(member -> member.getKind() == Kind.VARIABLE
                && !((VariableTree) member).getModifiers().getFlags().contains(Modifier.STATIC)).count();
        judge(fields <= MOST_FIELDS, tree, "at most " + MOST_FIELDS + " fields");
        return super.visitClass(tree, nothing);
    }

    @Override
    public Void visitMethod(MethodTree tree, Void nothing) {
        judge(tree.getParameters().size() <= MOST_PARAMETERS, tree, "at most " + MOST_PARAMETERS + " parameters");
        LineMap lines = unit.getLineMap();
        long first = lines.getLineNumber(trees.getSourcePositions().getStartPosition(unit, tree));
        long last = lines.getLineNumber(trees.getSourcePositions().getEndPosition(unit, tree));
        judge(last - first < MOST_LINES, tree, "at most " + MOST_LINES + " lines");
        method = trees.getElement(getCurrentPath());
        calls.putIfAbsent(method, new LinkedHashSet<>());
        super.visitMethod(tree, nothing);
        method = null;
        return null;
    }

    @Override
    public Void visitVariable(VariableTree tree, Void nothing) {
        Element variable = trees.getElement(getCurrentPath());
        judge(isAllowed(variable.asType()), tree, "a number, an own class, or an array of them");
        if (tree.getModifiers().getFlags().contains(Modifier.STATIC)) {
            judge(tree.getModifiers().getFlags().contains(Modifier.FINAL), tree, "a final field");
            judge(variable.asType().getKind().isPrimitive(), tree, "a constant number");
        }
        return super.visitVariable(tree, nothing);
    }

    private static boolean isAllowed(TypeMirror type) {
        if (type.getKind() == TypeKind.ARRAY) {
            TypeMirror inside = ((ArrayType) type).getComponentType();
            return inside.getKind() != TypeKind.ARRAY && isAllowed(inside);
        }
        return NUMBERS.contains(type.getKind()) || type.toString().startsWith("CombersSociety.");
    }

    @Override
    public Void visitMethodInvocation(MethodInvocationTree tree, Void nothing) {
        ExpressionTree name = tree.getMethodSelect();
        Element called = trees.getElement(getCurrentPath());
        boolean isOwn = called.getEnclosingElement().toString().startsWith("CombersSociety");
        boolean isSuper = name.toString().equals("super");
        judge(isOwn || isSuper || LIBRARY.contains(name.toString()), tree, "a call of its own, or of " + LIBRARY);
        if (method != null && !isSuper) {
            calls.get(method).add(called);
        }
        return super.visitMethodInvocation(tree, nothing);
    }

    /** How many calls stand open at once, this one too; one that is open already would be a recursion. */
    private int depth(Element first, Set<Element> open) {
        if (!open.add(first)) {
            Check.judge(false, "calls", "no recursion", "" + open);
            return open.size();
        }
        int deepest = 0;
        for (Element next : calls.getOrDefault(first, Set.of())) {
            deepest = Math.max(deepest, depth(next, open));
        }
        open.remove(first);
        return deepest + 1;
    }

    private boolean isInConstructor() {
        return method != null && method.getKind() == ElementKind.CONSTRUCTOR;
    }

    /** Rows are made in constructors alone, so that no run of calls fills the room that all share. */
    @Override
    public Void visitNewClass(NewClassTree tree, Void nothing) {
        boolean isThrown = getCurrentPath().getParentPath().getLeaf().getKind() == Kind.THROW;
        judge(isThrown || isInConstructor(), tree, "made in a constructor, or thrown");
        judge(tree.getClassBody() == null, tree, "no class without a name");
        return super.visitNewClass(tree, nothing);
    }

    @Override
    public Void visitNewArray(NewArrayTree tree, Void nothing) {
        judge(isInConstructor(), tree, "made in a constructor");
        return super.visitNewArray(tree, nothing);
    }

    @Override
    public Void visitThrow(ThrowTree tree, Void nothing) {
        boolean isNew = tree.getExpression().getKind() == Kind.NEW_CLASS;
        judge(isNew, tree, "a new exception");
        judge(method.getKind() == ElementKind.METHOD && method.getModifiers().contains(Modifier.PUBLIC), tree,
                "thrown by the face alone");
        if (isNew) {
            NewClassTree thrown = (NewClassTree) tree.getExpression();
            judge(EXCEPTIONS.contains(thrown.getIdentifier().toString()), tree, "one of " + EXCEPTIONS);
            Set<Kind> texts = thrown.getArguments().stream().map(Tree::getKind).collect(Collectors.toSet());
            judge(texts.isEmpty() || texts.equals(Set.of(Kind.STRING_LITERAL)), tree, "with a written text");
        }
        return super.visitThrow(tree, nothing);
    }

    /** Outside of exceptions there are no texts, and so no joining of texts by +. */
    @Override
    public Void visitIdentifier(IdentifierTree tree, Void nothing) {
        judge(!tree.getName().contentEquals("String") && !tree.getName().contentEquals("Object"), tree, "no such type");
        return super.visitIdentifier(tree, nothing);
    }
}
