import com.sun.source.tree.AssertTree;
import com.sun.source.tree.BinaryTree;
import com.sun.source.tree.ClassTree;
import com.sun.source.tree.CompilationUnitTree;
import com.sun.source.tree.DoWhileLoopTree;
import com.sun.source.tree.ExpressionTree;
import com.sun.source.tree.ForLoopTree;
import com.sun.source.tree.IdentifierTree;
import com.sun.source.tree.LambdaExpressionTree;
import com.sun.source.tree.MemberReferenceTree;
import com.sun.source.tree.MemberSelectTree;
import com.sun.source.tree.MethodInvocationTree;
import com.sun.source.tree.MethodTree;
import com.sun.source.tree.NewArrayTree;
import com.sun.source.tree.NewClassTree;
import com.sun.source.tree.SynchronizedTree;
import com.sun.source.tree.ThrowTree;
import com.sun.source.tree.Tree;
import com.sun.source.tree.TryTree;
import com.sun.source.tree.TypeCastTree;
import com.sun.source.tree.VariableTree;
import com.sun.source.tree.WhileLoopTree;
import com.sun.source.util.JavacTask;
import com.sun.source.util.TreePath;
import com.sun.source.util.TreePathScanner;
import com.sun.source.util.Trees;
import java.io.IOException;
import java.nio.file.Path;
import java.util.ArrayList;
import java.util.LinkedHashMap;
import java.util.LinkedHashSet;
import java.util.List;
import java.util.Map;
import java.util.Set;
import java.util.TreeSet;
import javax.lang.model.element.Element;
import javax.lang.model.element.ElementKind;
import javax.lang.model.element.Modifier;
import javax.lang.model.type.ArrayType;
import javax.lang.model.type.TypeKind;
import javax.lang.model.type.TypeMirror;
import javax.tools.JavaCompiler;
import javax.tools.StandardJavaFileManager;
import javax.tools.ToolProvider;

/** The program as the compiler reads it: what it breaks of LANGUAGE.md, and who calls whom. */
final class Source extends TreePathScanner<Void, Void> {
    private static final int MOST_LINES = 60;
    private static final int MOST_PARAMETERS = 7;

    /** Of rule 4, so much as a program of this kind may want; what else it lists can be added here. */
    private static final Set<String> LIBRARY = Set.of(
        "String.length", "String.charAt", "String.isEmpty", "String.equals", "String.indexOf", "String.substring", "String.toCharArray",
        "StringBuilder.append", "StringBuilder.charAt", "StringBuilder.setCharAt", "StringBuilder.setLength",
        "StringBuilder.deleteCharAt", "StringBuilder.reverse", "StringBuilder.length", "StringBuilder.toString",
        "Math.max", "Math.min", "Math.abs", "Math.floorDiv", "Math.floorMod", "Integer.compare", "Integer.bitCount", "Integer.max",
        "Integer.min", "Long.compare", "Long.bitCount", "System.arraycopy", "Arrays.copyOf", "Arrays.copyOfRange", "Arrays.fill");
    private static final Set<String> LIBRARY_TYPES = Set.of("java.lang.String", "java.lang.StringBuilder");
    private static final Set<TypeKind> NUMBERS = Set.of(
        TypeKind.INT, TypeKind.LONG, TypeKind.SHORT, TypeKind.BYTE, TypeKind.CHAR, TypeKind.BOOLEAN, TypeKind.DOUBLE, TypeKind.FLOAT);

    /** What breaks a rule: the rule, the line, and what stands there. */
    final List<String> broken = new ArrayList<>();
    /** By "Class.method" whom it calls; a constructor is "Class.new" and has what its class' fields begin with. */
    final Map<String, Set<String>> calls = new LinkedHashMap<>();
    /** Methods (no constructors) that make an object or an array. */
    final Set<String> makers = new TreeSet<>();
    final Set<String> classes = new LinkedHashSet<>();
    int methods = 0;

    private final Trees trees;
    private final CompilationUnitTree unit;
    private final String text;
    private String inClass = "";
    private String inMethod = "new";

    private Source(Trees trees, CompilationUnitTree unit) throws IOException {
        this.trees = trees;
        this.unit = unit;
        text = unit.getSourceFile().getCharContent(true).toString();
    }

    static Source of(Path file) throws IOException {
        JavaCompiler compiler = ToolProvider.getSystemJavaCompiler();
        try (StandardJavaFileManager files = compiler.getStandardFileManager(null, null, null)) {
            List<String> options = List.of("-proc:none", "-encoding", "UTF-8");
            // Whether it compiles is tested elsewhere; here what it says is read.
            JavacTask task = (JavacTask) compiler.getTask(null, files, remark -> { }, options, null, files.getJavaFileObjects(file));
            CompilationUnitTree unit = task.parse().iterator().next();
            task.analyze();
            Source source = new Source(Trees.instance(task), unit);
            source.top();
            source.scan(unit, null);
            return source;
        }
    }

    private void breaks(int rule, Tree where) {
        long at = trees.getSourcePositions().getStartPosition(unit, where);
        String shown = where.toString().replaceAll("\\s+", " ").strip();
        broken.add("rule " + rule + ", line " + unit.getLineMap().getLineNumber(at) + ": " + shown.substring(0, Math.min(90, shown.length())));
    }

    private void top() {
        if (unit.getPackage() != null) {
            breaks(1, unit.getPackage());
        }
        if (unit.getTypeDecls().size() != 1) {
            breaks(1, unit);
        }
        for (int i = 0; i < text.length(); i++) {
            if (text.charAt(i) > 126 || text.charAt(i) < ' ' && text.charAt(i) != '\n') {
                broken.add("rule 3: a sign of number " + (int) text.charAt(i));
            }
        }
    }

    private Element element(Tree tree) {
        return trees.getElement(new TreePath(getCurrentPath(), tree));
    }

    private TypeMirror type(Tree tree) {
        return trees.getTypeMirror(new TreePath(getCurrentPath(), tree));
    }

    private static boolean isOwn(String name) {
        return name.equals("StageFights") || name.startsWith("StageFights.");
    }

    private static boolean isAllowed(TypeMirror type) {
        if (type instanceof ArrayType row) {
            TypeMirror cell = row.getComponentType();
            boolean twoOfNumbers = cell instanceof ArrayType inner && NUMBERS.contains(inner.getComponentType().getKind());
            return twoOfNumbers || !(cell instanceof ArrayType) && isAllowed(cell);
        }
        return NUMBERS.contains(type.getKind()) || isOwn(type.toString()) || LIBRARY_TYPES.contains(type.toString());
    }

    private void typed(Tree told) {
        if (told != null && type(told).getKind() != TypeKind.VOID && !isAllowed(type(told))) {
            breaks(3, told);
        }
    }

    private void calls(String other) {
        calls.computeIfAbsent(inClass + "." + inMethod, key -> new LinkedHashSet<>()).add(other);
    }

    // ---- classes, fields, methods

    @Override
    public Void visitClass(ClassTree one, Void none) {
        Tree around = getCurrentPath().getParentPath().getLeaf();
        Set<Modifier> told = one.getModifiers().getFlags();
        boolean inside = around instanceof ClassTree;
        if (one.getSimpleName().length() == 0 || !inside && !(around instanceof CompilationUnitTree)) {
            breaks(2, one);
        }
        if (inside && (told.contains(Modifier.PUBLIC) || told.contains(Modifier.PROTECTED))) {
            breaks(1, one);
        }
        if (inside && one.getKind() == Tree.Kind.CLASS && !told.contains(Modifier.STATIC)) {
            breaks(2, one);
        }
        if (!inside && !(told.contains(Modifier.PUBLIC) && told.contains(Modifier.FINAL))) {
            breaks(1, one);
        }
        for (Tree member : one.getMembers()) {
            if (member.getKind() == Tree.Kind.BLOCK) {
                breaks(5, member);
            }
        }
        String outer = inClass;
        inClass = one.getSimpleName().toString();
        classes.add(inClass);
        super.visitClass(one, none);
        inClass = outer;
        return null;
    }

    @Override
    public Void visitVariable(VariableTree one, Void none) {
        typed(one.getType());
        Element field = trees.getElement(getCurrentPath());
        if (field.getKind() == ElementKind.FIELD && field.getModifiers().contains(Modifier.STATIC)) {
            TypeMirror type = field.asType();
            boolean row = type instanceof ArrayType array && Set.of("int", "long", "char", "byte").contains(array.getComponentType().toString());
            boolean writtenOut = one.getInitializer() instanceof NewArrayTree cells && cells.getInitializers() != null;
            boolean constant = Set.of("int", "long", "boolean", "char", "java.lang.String").contains(type.toString());
            if (!field.getModifiers().contains(Modifier.FINAL) || !constant && !(row && writtenOut)) {
                breaks(5, one);
            }
        }
        return super.visitVariable(one, none);
    }

    @Override
    public Void visitMethod(MethodTree one, Void none) {
        String name = one.getName().toString();
        boolean constructor = name.equals("<init>");
        inMethod = constructor ? "new" : name;
        calls.computeIfAbsent(inClass + "." + inMethod, key -> new LinkedHashSet<>());
        methods++;
        typed(one.getReturnType());
        if (one.getParameters().size() > MOST_PARAMETERS || lines(one) > MOST_LINES) {
            breaks(11, one);
        }
        if (!one.getThrows().isEmpty()) {
            breaks(6, one);
        }
        if (Set.of("equals", "hashCode", "toString", "finalize", "clone").contains(name)) {
            breaks(6, one);
        }
        super.visitMethod(one, none);
        inMethod = "new";
        return null;
    }

    private long lines(MethodTree one) {
        long from = trees.getSourcePositions().getStartPosition(unit, one);
        long until = trees.getSourcePositions().getEndPosition(unit, one);
        return unit.getLineMap().getLineNumber(until) - unit.getLineMap().getLineNumber(from) + 1;
    }

    // ---- what is used

    @Override
    public Void visitMethodInvocation(MethodInvocationTree one, Void none) {
        Element called = trees.getElement(getCurrentPath());
        String owner = called.getEnclosingElement().toString();
        String name = called.getSimpleName().toString();
        String simple = owner.substring(owner.lastIndexOf('.') + 1);
        if (name.equals("<init>")) {
            return super.visitMethodInvocation(one, none);
        }
        boolean array = one.getMethodSelect() instanceof MemberSelectTree select && select.getExpression() != null
            && type(select.getExpression()) instanceof ArrayType && name.equals("clone");
        if (!isOwn(owner) && !array && !LIBRARY.contains(simple + "." + name)) {
            breaks(4, one);
        }
        calls(simple + "." + name);
        if (array || simple.equals("Arrays") && !name.equals("fill")) {
            made();
        }
        return super.visitMethodInvocation(one, none);
    }

    private void made() {
        if (!inMethod.equals("new")) {
            makers.add(inClass + "." + inMethod);
        }
    }

    @Override
    public Void visitNewClass(NewClassTree one, Void none) {
        typed(one.getIdentifier());
        String name = one.getIdentifier().toString();
        calls(name + ".new");
        made();
        return super.visitNewClass(one, none);
    }

    @Override
    public Void visitNewArray(NewArrayTree one, Void none) {
        if (!isAllowed(trees.getTypeMirror(getCurrentPath()))) {
            breaks(3, one);
        }
        made();
        return super.visitNewArray(one, none);
    }

    @Override
    public Void visitTypeCast(TypeCastTree one, Void none) {
        if (!NUMBERS.contains(type(one.getType()).getKind())) {
            breaks(6, one);
        }
        return super.visitTypeCast(one, none);
    }

    @Override
    public Void visitMemberSelect(MemberSelectTree one, Void none) {
        Element used = trees.getElement(getCurrentPath());
        boolean field = used != null && used.getKind() == ElementKind.FIELD && used.getEnclosingElement() != null;
        if (field && !isOwn(used.getEnclosingElement().toString()) && !one.getIdentifier().contentEquals("length")) {
            breaks(4, one);
        }
        return super.visitMemberSelect(one, none);
    }

    @Override
    public Void visitIdentifier(IdentifierTree one, Void none) {
        if (one.getName().contentEquals("this") && getCurrentPath().getParentPath().getLeaf() instanceof MethodInvocationTree call
            && call.getArguments().contains(one)) {
            breaks(12, call);
        }
        return super.visitIdentifier(one, none);
    }

    @Override
    public Void visitBinary(BinaryTree one, Void none) {
        boolean left = isText(one.getLeftOperand());
        boolean right = isText(one.getRightOperand());
        if (one.getKind() == Tree.Kind.PLUS && (left || right)) {
            breaks(10, one);
        }
        if ((one.getKind() == Tree.Kind.EQUAL_TO || one.getKind() == Tree.Kind.NOT_EQUAL_TO) && left && right) {
            breaks(6, one);
        }
        return super.visitBinary(one, none);
    }

    private boolean isText(Tree side) {
        return Set.of("java.lang.String", "java.lang.Integer").contains(String.valueOf(type(side)));
    }

    // ---- loops

    /** A counter, or a place, that is held against a bound. */
    private static boolean hasBound(ExpressionTree condition) {
        return condition != null && condition.toString().matches("(?s).*(<|>).*");
    }

    @Override
    public Void visitForLoop(ForLoopTree one, Void none) {
        if (!hasBound(one.getCondition()) || one.getUpdate().isEmpty()) {
            breaks(9, one);
        }
        return super.visitForLoop(one, none);
    }

    @Override
    public Void visitWhileLoop(WhileLoopTree one, Void none) {
        if (!hasBound(one.getCondition())) {
            breaks(9, one);
        }
        return super.visitWhileLoop(one, none);
    }

    @Override
    public Void visitDoWhileLoop(DoWhileLoopTree one, Void none) {
        if (!hasBound(one.getCondition())) {
            breaks(9, one);
        }
        return super.visitDoWhileLoop(one, none);
    }

    // ---- what never stands in it

    @Override
    public Void visitLambdaExpression(LambdaExpressionTree one, Void none) {
        breaks(2, one);
        return super.visitLambdaExpression(one, none);
    }

    @Override
    public Void visitMemberReference(MemberReferenceTree one, Void none) {
        breaks(2, one);
        return super.visitMemberReference(one, none);
    }

    @Override
    public Void visitThrow(ThrowTree one, Void none) {
        breaks(6, one);
        return super.visitThrow(one, none);
    }

    @Override
    public Void visitTry(TryTree one, Void none) {
        breaks(6, one);
        return super.visitTry(one, none);
    }

    @Override
    public Void visitSynchronized(SynchronizedTree one, Void none) {
        breaks(6, one);
        return super.visitSynchronized(one, none);
    }

    @Override
    public Void visitAssert(AssertTree one, Void none) {
        breaks(6, one);
        return super.visitAssert(one, none);
    }
}
