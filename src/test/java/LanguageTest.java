import com.sun.source.tree.AssertTree;
import com.sun.source.tree.BinaryTree;
import com.sun.source.tree.ClassTree;
import com.sun.source.tree.CompilationUnitTree;
import com.sun.source.tree.CompoundAssignmentTree;
import com.sun.source.tree.DoWhileLoopTree;
import com.sun.source.tree.EnhancedForLoopTree;
import com.sun.source.tree.ExpressionTree;
import com.sun.source.tree.ForLoopTree;
import com.sun.source.tree.ImportTree;
import com.sun.source.tree.InstanceOfTree;
import com.sun.source.tree.LambdaExpressionTree;
import com.sun.source.tree.LiteralTree;
import com.sun.source.tree.MemberReferenceTree;
import com.sun.source.tree.MethodInvocationTree;
import com.sun.source.tree.MethodTree;
import com.sun.source.tree.NewClassTree;
import com.sun.source.tree.SynchronizedTree;
import com.sun.source.tree.ThrowTree;
import com.sun.source.tree.Tree;
import com.sun.source.tree.TryTree;
import com.sun.source.tree.TypeCastTree;
import com.sun.source.tree.VariableTree;
import com.sun.source.tree.WhileLoopTree;
import com.sun.source.util.JavacTask;
import com.sun.source.util.TreePath;
import com.sun.source.util.TreePathScanner;
import com.sun.source.util.Trees;
import java.io.IOException;
import java.nio.file.Files;
import java.nio.file.Path;
import java.util.ArrayList;
import java.util.HashSet;
import java.util.LinkedHashMap;
import java.util.List;
import java.util.Map;
import java.util.Set;
import java.util.TreeSet;
import java.util.regex.Matcher;
import java.util.regex.Pattern;
import javax.lang.model.element.Element;
import javax.lang.model.element.ElementKind;
import javax.lang.model.element.ExecutableElement;
import javax.lang.model.element.Modifier;
import javax.lang.model.element.VariableElement;
import javax.lang.model.type.ArrayType;
import javax.lang.model.type.TypeKind;
import javax.lang.model.type.TypeMirror;
import javax.tools.JavaCompiler;
import javax.tools.StandardJavaFileManager;
import javax.tools.ToolProvider;

/**
 * LANGUAGE.md, rule by rule, as far as the compiler's tree of the class can show it: what this finds is told with the
 * rule's number. Arguments: the class's file, the document.
 */
final class LanguageTest extends TreePathScanner<Void, Void> {
    private static final int MOST_PARAMETERS = 7;
    private static final int MOST_LINES = 60;
    private static final int MOST_DEPTH = 8;
    private static final int MOST_CLASSES = 12;
    private static final int MOST_FIELDS = 20;

    /** What rule 4 lets in, as far as the class needs it; the constructor of Object is called by each own one. */
    private static final Set<String> LIBRARY = Set.of("String.length", "String.charAt", "Math.max", "Math.min",
            "Integer.bitCount", "Arrays.copyOf", "Arrays.fill", "System.arraycopy", "Object.<init>");
    /** Rule 7: methods that look at a divisor that is no constant before it divides. */
    private static final Set<String> TESTED_DIVISORS = Set.of("Formula.joined", "Reckoning.rounded");
    private static final Set<String> PRIMITIVES = Set.of("int", "long", "short", "byte", "char", "boolean", "void");

    private final Trees trees;
    private final CompilationUnitTree unit;
    private final Set<String> faults = new TreeSet<>();
    private final Set<String> face = new TreeSet<>();
    private final Set<String> ownClasses = new TreeSet<>();
    private final Map<Element, Set<Element>> calls = new LinkedHashMap<>();
    private final Map<String, Integer> fields = new LinkedHashMap<>();

    private LanguageTest(Trees trees, CompilationUnitTree unit) {
        this.trees = trees;
        this.unit = unit;
    }

    public static void main(String[] args) throws IOException {
        Path source = Path.of(args.length > 0 ? args[0] : "src/main/java/WageCourt.java");
        Path document = Path.of(args.length > 1 ? args[1] : "../shared/DOC.md");
        JavaCompiler compiler = ToolProvider.getSystemJavaCompiler();
        StandardJavaFileManager files = compiler.getStandardFileManager(null, null, null);
        JavacTask task = (JavacTask) compiler.getTask(null, files, null, List.of("-proc:none"), null,
                files.getJavaFileObjects(source));
        List<CompilationUnitTree> units = new ArrayList<>();
        task.parse().forEach(units::add);
        task.analyze();
        LanguageTest looked = new LanguageTest(Trees.instance(task), units.get(0));
        looked.collectClasses();
        looked.scan(looked.unit, null);
        looked.lookAtWhole();
        looked.lookAtFace(document);
        looked.faults.forEach(System.out::println);
        Check.due("faults found", looked.faults.size(), 0);
        Check.end();
    }

    private void fault(int rule, String what, Tree where) {
        long line = unit.getLineMap().getLineNumber(trees.getSourcePositions().getStartPosition(unit, where));
        faults.add("rule " + rule + ": line " + line + ": " + what);
    }

    private void unless(boolean well, int rule, String what, Tree where) {
        if (!well) {
            fault(rule, what, where);
        }
    }

    private void collectClasses() {
        new TreePathScanner<Void, Void>() {
            @Override
            public Void visitClass(ClassTree tree, Void none) {
                ownClasses.add(tree.getSimpleName().toString());
                return super.visitClass(tree, none);
            }
        }.scan(unit, null);
    }

    private Element element(Tree tree) {
        return trees.getElement(new TreePath(getCurrentPath().getParentPath(), tree));
    }

    private TypeMirror type(Tree tree) {
        return trees.getTypeMirror(new TreePath(getCurrentPath(), tree));
    }

    private static String nameOf(Element element) {
        return element.getEnclosingElement().getSimpleName() + "." + element.getSimpleName();
    }

    private static boolean isOutermost(Element element) {
        return element.getEnclosingElement().getKind() == ElementKind.PACKAGE;
    }

    // ---- rules 1, 2, 5, 11: classes, methods, fields

    @Override
    public Void visitImport(ImportTree tree, Void none) {
        unless(tree.getQualifiedIdentifier().toString().equals("java.util.Arrays"), 4, "import", tree);
        return super.visitImport(tree, none);
    }

    @Override
    public Void visitClass(ClassTree tree, Void none) {
        Element one = element(tree);
        Set<Modifier> modifiers = one.getModifiers();
        if (isOutermost(one)) {
            boolean shown = modifiers.contains(Modifier.PUBLIC) && modifiers.contains(Modifier.FINAL);
            unless(shown && one.getSimpleName().contentEquals("WageCourt"), 1, "the class of the document", tree);
        } else {
            unless(one.getEnclosingElement().getKind().isClass(), 2, "a local or anonymous class", tree);
            unless(modifiers.contains(Modifier.STATIC), 2, "an inner class that isn't static", tree);
            unless(isPrivateOrOfPackage(modifiers), 1, "a class inside that others see", tree);
        }
        for (Tree member : tree.getMembers()) {
            unless(member.getKind() != Tree.Kind.BLOCK, 5, "an initialiser block", member);
        }
        return super.visitClass(tree, none);
    }

    private static boolean isPrivateOrOfPackage(Set<Modifier> modifiers) {
        return !modifiers.contains(Modifier.PUBLIC) && !modifiers.contains(Modifier.PROTECTED);
    }

    @Override
    public Void visitMethod(MethodTree tree, Void none) {
        ExecutableElement one = (ExecutableElement) element(tree);
        calls.computeIfAbsent(one, any -> new HashSet<>());
        if (isOutermost(one.getEnclosingElement())) {
            lookAtMember(one, signature(tree), tree);
        }
        String name = one.getSimpleName().toString();
        unless(!Set.of("equals", "hashCode", "toString", "finalize").contains(name), 6, "an own " + name, tree);
        unless(tree.getParameters().size() <= MOST_PARAMETERS, 11, "parameters of " + name, tree);
        unless(lines(tree) <= MOST_LINES, 11, "lines of " + name, tree);
        unless(tree.getReturnType() == null || isLetIn(one.getReturnType()), 3, "what " + name + " returns", tree);
        return super.visitMethod(tree, none);
    }

    private long lines(Tree tree) {
        long first = trees.getSourcePositions().getStartPosition(unit, tree);
        long last = trees.getSourcePositions().getEndPosition(unit, tree);
        return unit.getLineMap().getLineNumber(last) - unit.getLineMap().getLineNumber(Math.max(0, first)) + 1;
    }

    /** What others see is the face; all else in the outermost class is private. */
    private void lookAtMember(Element one, String told, Tree tree) {
        if (one.getModifiers().contains(Modifier.PUBLIC)) {
            face.add(told);
        } else {
            unless(one.getModifiers().contains(Modifier.PRIVATE), 1, "others see " + one, tree);
        }
    }

    private static String signature(MethodTree tree) {
        String name = tree.getReturnType() == null ? "WageCourt" : tree.getReturnType() + " " + tree.getName();
        List<String> parameters = new ArrayList<>();
        tree.getParameters().forEach(one -> parameters.add(one.getType() + " " + one.getName()));
        return "public " + name + "(" + String.join(", ", parameters) + ");";
    }

    @Override
    public Void visitVariable(VariableTree tree, Void none) {
        VariableElement one = (VariableElement) element(tree);
        unless(isLetIn(one.asType()), 3, "the type of " + one, tree);
        if (one.getKind() == ElementKind.FIELD) {
            lookAtField(one, tree);
        }
        return super.visitVariable(tree, none);
    }

    private void lookAtField(VariableElement one, VariableTree tree) {
        if (isOutermost(one.getEnclosingElement())) {
            lookAtMember(one, "public static final int " + one + " = " + one.getConstantValue() + ";", tree);
        }
        if (one.getModifiers().contains(Modifier.STATIC)) {
            boolean isConstant = one.getModifiers().contains(Modifier.FINAL) && one.getConstantValue() != null;
            unless(isConstant, 5, one + " is static and no constant", tree);
        } else {
            fields.merge(one.getEnclosingElement().getSimpleName().toString(), 1, Integer::sum);
        }
    }

    private boolean isLetIn(TypeMirror type) {
        if (type.getKind() == TypeKind.ARRAY) {
            TypeMirror of = ((ArrayType) type).getComponentType();
            boolean isTable = of.getKind() == TypeKind.ARRAY && ((ArrayType) of).getComponentType().getKind().isPrimitive();
            return isTable || of.getKind() != TypeKind.ARRAY && isLetIn(of);
        }
        String name = type.toString();
        String last = name.substring(name.lastIndexOf('.') + 1);
        return PRIMITIVES.contains(name) || ownClasses.contains(last) || name.equals("java.lang.String");
    }

    // ---- rules 2 and 6: what isn't there at all

    @Override
    public Void visitThrow(ThrowTree tree, Void none) {
        fault(6, "throw", tree);
        return super.visitThrow(tree, none);
    }

    @Override
    public Void visitTry(TryTree tree, Void none) {
        fault(6, "try", tree);
        return super.visitTry(tree, none);
    }

    @Override
    public Void visitSynchronized(SynchronizedTree tree, Void none) {
        fault(6, "synchronized", tree);
        return super.visitSynchronized(tree, none);
    }

    @Override
    public Void visitAssert(AssertTree tree, Void none) {
        fault(6, "assert", tree);
        return super.visitAssert(tree, none);
    }

    @Override
    public Void visitLambdaExpression(LambdaExpressionTree tree, Void none) {
        fault(2, "a lambda", tree);
        return super.visitLambdaExpression(tree, none);
    }

    @Override
    public Void visitMemberReference(MemberReferenceTree tree, Void none) {
        fault(2, "a method reference", tree);
        return super.visitMemberReference(tree, none);
    }

    @Override
    public Void visitInstanceOf(InstanceOfTree tree, Void none) {
        fault(6, "instanceof, which this class does without", tree);
        return super.visitInstanceOf(tree, none);
    }

    @Override
    public Void visitTypeCast(TypeCastTree tree, Void none) {
        unless(type(tree.getType()).getKind().isPrimitive(), 6, "a cast of objects", tree);
        return super.visitTypeCast(tree, none);
    }

    // ---- rule 4: the library; rules 8 and 11: who calls whom

    @Override
    public Void visitMethodInvocation(MethodInvocationTree tree, Void none) {
        noteCall(trees.getElement(getCurrentPath()), tree);
        return super.visitMethodInvocation(tree, none);
    }

    @Override
    public Void visitNewClass(NewClassTree tree, Void none) {
        unless(tree.getClassBody() == null, 2, "an anonymous class", tree);
        noteCall(trees.getElement(getCurrentPath()), tree);
        return super.visitNewClass(tree, none);
    }

    private void noteCall(Element called, Tree tree) {
        if (!ownClasses.contains(called.getEnclosingElement().getSimpleName().toString())) {
            unless(LIBRARY.contains(nameOf(called)), 4, nameOf(called), tree);
            return;
        }
        TreePath path = getCurrentPath();
        while (path != null && path.getLeaf().getKind() != Tree.Kind.METHOD) {
            path = path.getParentPath();
        }
        unless(path != null, 11, "a call outside of a method", tree);
        if (path != null) {
            calls.computeIfAbsent(trees.getElement(path), any -> new HashSet<>()).add(called);
        }
    }

    @Override
    public Void visitLiteral(LiteralTree tree, Void none) {
        if (tree.getValue() instanceof String text) {
            boolean plain = text.chars().allMatch(sign -> sign >= 1 && sign <= 127);
            unless(plain, 4, "a constant's sign", tree);
        }
        return super.visitLiteral(tree, none);
    }

    // ---- rules 6, 7, 10: what is reckoned

    @Override
    public Void visitBinary(BinaryTree tree, Void none) {
        Tree.Kind kind = tree.getKind();
        boolean ofTexts = isText(tree.getLeftOperand()) && isText(tree.getRightOperand());
        unless(kind != Tree.Kind.EQUAL_TO && kind != Tree.Kind.NOT_EQUAL_TO || !ofTexts, 6, "== of texts", tree);
        boolean joins = isText(tree.getLeftOperand()) || isText(tree.getRightOperand());
        unless(kind != Tree.Kind.PLUS || !joins, 10, "texts joined by +", tree);
        if (kind == Tree.Kind.DIVIDE || kind == Tree.Kind.REMAINDER) {
            lookAtDivisor(tree.getRightOperand(), tree);
        }
        return super.visitBinary(tree, none);
    }

    @Override
    public Void visitCompoundAssignment(CompoundAssignmentTree tree, Void none) {
        boolean divides = tree.getKind() == Tree.Kind.DIVIDE_ASSIGNMENT
                || tree.getKind() == Tree.Kind.REMAINDER_ASSIGNMENT;
        unless(!divides, 7, "a divisor", tree);
        return super.visitCompoundAssignment(tree, none);
    }

    private boolean isText(ExpressionTree tree) {
        TypeMirror type = type(tree);
        return type != null && type.toString().equals("java.lang.String");
    }

    private void lookAtDivisor(ExpressionTree divisor, Tree where) {
        Element named = trees.getElement(new TreePath(getCurrentPath(), divisor));
        boolean isConstant = named instanceof VariableElement one && one.getConstantValue() instanceof Integer number
                && number != 0 || divisor instanceof LiteralTree literal && !literal.getValue().equals(0);
        TreePath path = getCurrentPath();
        while (path.getLeaf().getKind() != Tree.Kind.METHOD) {
            path = path.getParentPath();
        }
        boolean isTested = TESTED_DIVISORS.contains(nameOf(trees.getElement(path)));
        unless(isConstant || isTested, 7, "the divisor " + divisor, where);
    }

    // ---- rule 9: loops

    @Override
    public Void visitForLoop(ForLoopTree tree, Void none) {
        boolean steps = !tree.getUpdate().isEmpty() && !tree.getInitializer().isEmpty();
        unless(steps && tree.getCondition() != null, 9, "a for without a counter and its bound", tree);
        return super.visitForLoop(tree, none);
    }

    @Override
    public Void visitWhileLoop(WhileLoopTree tree, Void none) {
        String condition = tree.getCondition().toString();
        unless(condition.matches(".*\\w+ (<|>) \\w+ && .*"), 9, "a while without a counter: " + condition, tree);
        return super.visitWhileLoop(tree, none);
    }

    @Override
    public Void visitDoWhileLoop(DoWhileLoopTree tree, Void none) {
        fault(9, "a do loop, which this class does without", tree);
        return super.visitDoWhileLoop(tree, none);
    }

    @Override
    public Void visitEnhancedForLoop(EnhancedForLoopTree tree, Void none) {
        unless(type(tree.getExpression()).getKind() == TypeKind.ARRAY, 12, "a loop over no array", tree);
        return super.visitEnhancedForLoop(tree, none);
    }

    // ---- the whole

    private void lookAtWhole() {
        unless(unit.getPackageName() == null, 1, "a package", unit);
        unless(unit.getTypeDecls().size() == 1, 1, "more than one class in the file", unit);
        unless(ownClasses.size() <= MOST_CLASSES, 11, ownClasses.size() + " classes", unit);
        fields.forEach((name, many) -> unless(many <= MOST_FIELDS, 11, many + " fields of " + name, unit));
        lookAtNames();
        int deepest = 0;
        for (Element one : calls.keySet()) {
            deepest = Math.max(deepest, depth(one, new ArrayList<>()));
        }
        unless(deepest <= MOST_DEPTH, 11, "calls are " + deepest + " deep", unit);
        System.out.println(calls.size() + " methods, calls at most " + deepest + " deep");
    }

    private void lookAtNames() {
        Set<String> shown = new HashSet<>();
        for (Element one : calls.keySet()) {
            if (one.getModifiers().contains(Modifier.PUBLIC)) {
                shown.add(one.getSimpleName().toString());
            }
        }
        for (Element one : calls.keySet()) {
            boolean hidden = !one.getModifiers().contains(Modifier.PUBLIC) && one.getKind() == ElementKind.METHOD;
            boolean bears = hidden && shown.contains(one.getSimpleName().toString());
            unless(!bears, 1, nameOf(one) + " bears a public method's name", unit);
        }
    }

    private int depth(Element one, List<Element> open) {
        if (open.contains(one)) {
            fault(8, "recursion at " + nameOf(one), unit);
            return 0;
        }
        open.add(one);
        int below = 0;
        for (Element called : calls.getOrDefault(one, Set.of())) {
            below = Math.max(below, depth(called, open));
        }
        open.remove(one);
        return below + 1;
    }

    private void lookAtFace(Path document) throws IOException {
        if (!Files.exists(document)) {
            System.out.println("the document is not at " + document + ", the face is not looked up");
            return;
        }
        Set<String> promised = new TreeSet<>();
        Matcher line = Pattern.compile("(?m)^    (public .*;)$").matcher(Files.readString(document));
        while (line.find()) {
            promised.add(line.group(1));
        }
        for (String member : promised) {
            unless(face.contains(member), 1, "not there: " + member, unit);
        }
        for (String member : face) {
            unless(promised.contains(member), 1, "not in the document: " + member, unit);
        }
        Check.due("members that the document's face has", promised.size(), 47);
    }
}
