import com.sun.source.tree.BinaryTree;
import com.sun.source.tree.BlockTree;
import com.sun.source.tree.ClassTree;
import com.sun.source.tree.CompilationUnitTree;
import com.sun.source.tree.CompoundAssignmentTree;
import com.sun.source.tree.ConditionalExpressionTree;
import com.sun.source.tree.DoWhileLoopTree;
import com.sun.source.tree.ExpressionTree;
import com.sun.source.tree.ForLoopTree;
import com.sun.source.tree.IdentifierTree;
import com.sun.source.tree.ImportTree;
import com.sun.source.tree.LiteralTree;
import com.sun.source.tree.MemberSelectTree;
import com.sun.source.tree.MethodInvocationTree;
import com.sun.source.tree.MethodTree;
import com.sun.source.tree.NewArrayTree;
import com.sun.source.tree.NewClassTree;
import com.sun.source.tree.Tree;
import com.sun.source.tree.TypeCastTree;
import com.sun.source.tree.UnaryTree;
import com.sun.source.tree.VariableTree;
import com.sun.source.tree.WhileLoopTree;
import com.sun.source.util.JavacTask;
import com.sun.source.util.TreePath;
import com.sun.source.util.TreePathScanner;
import com.sun.source.util.TreeScanner;
import com.sun.source.util.Trees;
import java.io.IOException;
import java.net.URI;
import java.util.ArrayList;
import java.util.EnumSet;
import java.util.HashMap;
import java.util.HashSet;
import java.util.List;
import java.util.Map;
import java.util.Set;
import java.util.TreeSet;
import javax.lang.model.element.Element;
import javax.lang.model.element.ElementKind;
import javax.lang.model.element.ExecutableElement;
import javax.lang.model.element.Modifier;
import javax.lang.model.element.TypeElement;
import javax.lang.model.element.VariableElement;
import javax.lang.model.type.ArrayType;
import javax.lang.model.type.TypeMirror;
import javax.tools.Diagnostic;
import javax.tools.JavaCompiler;
import javax.tools.JavaFileObject;
import javax.tools.SimpleJavaFileObject;
import javax.tools.ToolProvider;

/**
 * What of LANGUAGE.md can be looked up in the compiler's tree of the class: each finding is told with its rule's number.
 * Where this class needs less than a rule allows (no exception, no double, nothing made by a call), less is taken.
 */
final class Rules extends TreePathScanner<Void, Void> {
    private static final int MOST_PARAMETERS = 7;
    private static final int MOST_LINES = 60;
    private static final int MOST_DEPTH = 8;
    private static final int MOST_CLASSES = 12;
    private static final int MOST_FIELDS = 20;
    private static final Set<Tree.Kind> COMPARING = EnumSet.of(
        Tree.Kind.LESS_THAN, Tree.Kind.LESS_THAN_EQUAL, Tree.Kind.GREATER_THAN, Tree.Kind.GREATER_THAN_EQUAL);
    private static final Set<Tree.Kind> COUNTING = EnumSet.of(
        Tree.Kind.POSTFIX_INCREMENT, Tree.Kind.POSTFIX_DECREMENT, Tree.Kind.PREFIX_INCREMENT, Tree.Kind.PREFIX_DECREMENT);
    /** What never stands in the class, each with its rule. */
    private static final Map<Tree.Kind, Integer> NEVER = Map.of(
        Tree.Kind.PACKAGE, 1, Tree.Kind.LAMBDA_EXPRESSION, 2, Tree.Kind.MEMBER_REFERENCE, 2, Tree.Kind.ANNOTATION, 4, Tree.Kind.THROW, 6,
        Tree.Kind.TRY, 6, Tree.Kind.ASSERT, 6, Tree.Kind.SYNCHRONIZED, 6);
    private static final Set<String> TYPES = Set.of("int", "long", "short", "byte", "char", "boolean", "void", "java.lang.String");
    private static final Set<String> LIBRARY = Set.of(
        "java.lang.String.indexOf(char)",
        "java.lang.Integer.bitCount(int)", "java.lang.Long.bitCount(long)", "java.lang.Math.max(int,int)", "java.lang.Math.min(int,int)",
        "java.lang.System.arraycopy(numbers)", "java.util.Arrays.fill(numbers)");

    private final Set<String> found = new TreeSet<>();
    private final Map<String, Set<String>> calls = new HashMap<>();
    private final Set<String> own = new HashSet<>();
    private final Trees trees;
    private final CompilationUnitTree unit;
    private int classes;

    private Rules(Trees trees, CompilationUnitTree unit) {
        this.trees = trees;
        this.unit = unit;
    }

    /** What is broken by a source of the class, each beginning by the rule's number; "0 .." if it does not compile. */
    static Set<String> brokenBy(String source) throws IOException {
        JavaCompiler compiler = ToolProvider.getSystemJavaCompiler();
        JavaFileObject file = new SimpleJavaFileObject(URI.create("string:///SealedLips.java"), JavaFileObject.Kind.SOURCE) {
            @Override
            public CharSequence getCharContent(boolean ignored) {
                return source;
            }
        };
        Set<String> faults = new TreeSet<>();
        JavacTask task = (JavacTask) compiler.getTask(null, null, d -> {
            if (d.getKind() == Diagnostic.Kind.ERROR) {
                faults.add("0 does not compile: " + d.getMessage(null));
            }
        }, List.of("-proc:none", "-implicit:none"), null, List.of(file));
        CompilationUnitTree unit = task.parse().iterator().next();
        task.analyze();
        if (!faults.isEmpty()) {
            return faults;
        }
        Rules rules = new Rules(Trees.instance(task), unit);
        rules.scan(unit, null);
        rules.lookAtCalls();
        rules.lookAtSigns(source);
        return rules.found;
    }

    private void tell(int rule, String what, Tree at) {
        long line = unit.getLineMap().getLineNumber(trees.getSourcePositions().getStartPosition(unit, at));
        found.add(rule + " line " + line + ": " + what);
    }

    private Element element() {
        return trees.getElement(getCurrentPath());
    }

    private TypeMirror typeOf(Tree tree) {
        return trees.getTypeMirror(new TreePath(getCurrentPath(), tree));
    }

    private static boolean isOwn(String type) {
        return type.equals("SealedLips") || type.startsWith("SealedLips.");
    }

    private void lookAtSigns(String source) {
        for (int i = 0; i < source.length(); i++) {
            if (source.charAt(i) > 126) {
                found.add("3 sign " + i + " is above 126");
            }
        }
    }

    // ---- the file and its classes

    @Override
    public Void visitImport(ImportTree tree, Void v) {
        String name = tree.getQualifiedIdentifier().toString();
        if (!name.equals("java.util.Arrays") || tree.isStatic()) {
            tell(4, "import of " + name, tree);
        }
        return super.visitImport(tree, v);
    }

    @Override
    public Void visitClass(ClassTree tree, Void v) {
        Tree outer = getCurrentPath().getParentPath().getLeaf();
        Set<Modifier> flags = tree.getModifiers().getFlags();
        if (outer instanceof CompilationUnitTree) {
            if (!flags.equals(Set.of(Modifier.PUBLIC, Modifier.FINAL)) || !tree.getSimpleName().contentEquals("SealedLips")) {
                tell(1, "a class that is not public final SealedLips", tree);
            }
        } else if (!(outer instanceof ClassTree)) {
            tell(2, "a local or anonymous class", tree);
        } else if (!flags.contains(Modifier.STATIC) || flags.contains(Modifier.PUBLIC) || flags.contains(Modifier.PROTECTED)) {
            tell(1, "a class inside that is not static, or is seen", tree);
        }
        classes++;
        if (classes > MOST_CLASSES) {
            tell(11, "more than twelve classes", tree);
        }
        lookAtMembers(tree);
        return super.visitClass(tree, v);
    }

    private void lookAtMembers(ClassTree tree) {
        int fields = 0;
        for (Tree member : tree.getMembers()) {
            if (member instanceof BlockTree) {
                tell(5, "an initialiser block", member);
            }
            if (member instanceof VariableTree && !((VariableTree) member).getModifiers().getFlags().contains(Modifier.STATIC)) {
                fields++;
            }
        }
        if (fields > MOST_FIELDS) {
            tell(11, "more than twenty fields", tree);
        }
    }

    @Override
    public Void visitVariable(VariableTree tree, Void v) {
        VariableElement variable = (VariableElement) element();
        lookAtType(variable.asType(), tree);
        if (variable.getKind() == ElementKind.FIELD) {
            Set<Modifier> flags = variable.getModifiers();
            boolean inFace = variable.getEnclosingElement().toString().equals("SealedLips");
            boolean constant = flags.contains(Modifier.FINAL) && variable.getConstantValue() != null;
            if (flags.contains(Modifier.STATIC) && !constant) {
                tell(5, "a static field that is no constant: " + variable, tree);
            }
            if (!flags.contains(Modifier.PRIVATE) && !(inFace && constant && flags.contains(Modifier.PUBLIC))) {
                tell(1, "a field that is seen: " + variable, tree);
            }
        }
        return super.visitVariable(tree, v);
    }

    private void lookAtType(TypeMirror type, Tree at) {
        TypeMirror part = type;
        if (part instanceof ArrayType) {
            part = ((ArrayType) part).getComponentType();
        }
        if (!TYPES.contains(part.toString()) && !isOwn(part.toString())) {
            tell(3, "a type that is not taken: " + type, at);
        }
    }

    // ---- methods and what they call

    @Override
    public Void visitMethod(MethodTree tree, Void v) {
        Element method = element();
        boolean made = tree.getReturnType() == null;
        boolean inFace = method.getEnclosingElement().toString().equals("SealedLips");
        Set<Modifier> flags = method.getModifiers();
        boolean seen = !flags.contains(Modifier.PRIVATE);
        // a class inside that has no constructor of its own is given one that is as private as it is
        boolean given = made && trees.getSourcePositions().getEndPosition(unit, tree) < 0;
        if (seen && !given && !(inFace && flags.contains(Modifier.PUBLIC))) {
            tell(1, "a method that is seen: " + method, tree);
        }
        if (!made) {
            lookAtType(((ExecutableElement) method).getReturnType(), tree);
            lookAtName(tree, method, seen && inFace);
        }
        if (tree.getParameters().size() > MOST_PARAMETERS) {
            tell(11, "more than seven parameters", tree);
        }
        long first = trees.getSourcePositions().getStartPosition(unit, tree);
        long last = trees.getSourcePositions().getEndPosition(unit, tree);
        if (last > 0 && unit.getLineMap().getLineNumber(last) - unit.getLineMap().getLineNumber(first) >= MOST_LINES) {
            tell(11, "a method of more than sixty lines", tree);
        }
        own.add(nameOf(method));
        calls.putIfAbsent(nameOf(method), new HashSet<>());
        return super.visitMethod(tree, v);
    }

    private void lookAtName(MethodTree tree, Element method, boolean face) {
        if (Set.of("equals", "hashCode", "toString").contains(tree.getName().toString())) {
            tell(6, "a method " + tree.getName(), tree);
        }
        if (face) {
            return;
        }
        for (Element other : faceOf(method).getEnclosedElements()) {
            if (other.getKind() == ElementKind.METHOD && other.getModifiers().contains(Modifier.PUBLIC)
                    && other.getSimpleName().contentEquals(tree.getName())) {
                tell(1, "a private method of a public one's name: " + tree.getName(), tree);
            }
        }
    }

    private static Element faceOf(Element member) {
        Element face = member;
        while (!(face instanceof TypeElement && face.toString().equals("SealedLips"))) {
            face = face.getEnclosingElement();
        }
        return face;
    }

    private static String nameOf(Element method) {
        return method.getEnclosingElement() + "." + method;
    }

    @Override
    public Void visitMethodInvocation(MethodInvocationTree tree, Void v) {
        Element method = element();
        if (!method.getSimpleName().contentEquals("<init>")) {
            String owner = method.getEnclosingElement().toString();
            if (isOwn(owner)) {
                calledHere(nameOf(method));
            } else {
                String name = owner + "." + method.getSimpleName() + "(" + argumentsOf(tree, owner) + ")";
                if (!LIBRARY.contains(name)) {
                    tell(4, "a call of the library: " + name, tree);
                }
            }
        }
        return super.visitMethodInvocation(tree, v);
    }

    private String argumentsOf(MethodInvocationTree tree, String owner) {
        List<String> all = new ArrayList<>();
        boolean ofRows = owner.equals("java.lang.System") || owner.equals("java.util.Arrays");
        for (ExpressionTree argument : tree.getArguments()) {
            String type = String.valueOf(typeOf(argument));
            if (ofRows && type.endsWith("]") && isOwn(type)) {
                return "own classes";
            }
            all.add(type);
        }
        return ofRows ? "numbers" : String.join(",", all);
    }

    private void calledHere(String method) {
        for (TreePath path = getCurrentPath(); path != null; path = path.getParentPath()) {
            if (path.getLeaf() instanceof MethodTree) {
                calls.computeIfAbsent(nameOf(trees.getElement(path)), k -> new HashSet<>()).add(method);
                return;
            }
        }
        found.add("12 a field's initialiser calls " + method);
    }

    private void lookAtCalls() {
        for (String method : own) {
            int depth = depthOf(method, new ArrayList<>());
            if (depth > MOST_DEPTH) {
                found.add("11 calls go " + depth + " deep from " + method);
            }
        }
    }

    /** How many methods stand open at once below this one, itself counted. */
    private int depthOf(String method, List<String> open) {
        if (open.contains(method)) {
            found.add("8 recursion in " + method);
            return 0;
        }
        open.add(method);
        int most = 0;
        for (String called : calls.getOrDefault(method, Set.of())) {
            most = Math.max(most, depthOf(called, open));
        }
        open.remove(open.size() - 1);
        return most + 1;
    }

    // ---- what may not stand in a method

    private boolean inMethod() {
        for (TreePath path = getCurrentPath(); path != null; path = path.getParentPath()) {
            if (path.getLeaf() instanceof MethodTree) {
                return ((MethodTree) path.getLeaf()).getReturnType() != null;
            }
        }
        return false;
    }

    @Override
    public Void visitNewClass(NewClassTree tree, Void v) {
        if (inMethod() || !isOwn(String.valueOf(trees.getTypeMirror(getCurrentPath())))) {
            tell(12, "an object made by a call, or of the library", tree);
        }
        return super.visitNewClass(tree, v);
    }

    @Override
    public Void visitNewArray(NewArrayTree tree, Void v) {
        if (inMethod()) {
            tell(12, "an array made by a call", tree);
        }
        for (ExpressionTree length : tree.getDimensions()) {
            if (!isNumberAboveZero(length)) {
                tell(7, "an array's length that is no constant", tree);
            }
        }
        return super.visitNewArray(tree, v);
    }

    @Override
    public Void visitTypeCast(TypeCastTree tree, Void v) {
        if (!trees.getTypeMirror(getCurrentPath()).getKind().isPrimitive()) {
            tell(7, "a cast of an object", tree);
        }
        return super.visitTypeCast(tree, v);
    }

    @Override
    public Void visitBinary(BinaryTree tree, Void v) {
        Tree.Kind kind = tree.getKind();
        if ((kind == Tree.Kind.DIVIDE || kind == Tree.Kind.REMAINDER) && !isSafeDivisor(tree.getRightOperand())) {
            tell(7, "a divisor that was not looked at", tree);
        }
        boolean equal = kind == Tree.Kind.EQUAL_TO || kind == Tree.Kind.NOT_EQUAL_TO;
        if (equal && isText(tree.getLeftOperand()) && isText(tree.getRightOperand())) {
            tell(6, "two texts compared by ==", tree);
        }
        if (kind == Tree.Kind.PLUS && String.valueOf(trees.getTypeMirror(getCurrentPath())).equals("java.lang.String")) {
            tell(10, "texts joined by +", tree);
        }
        return super.visitBinary(tree, v);
    }

    private boolean isText(ExpressionTree tree) {
        return Set.of("java.lang.String", "java.lang.Integer").contains(String.valueOf(typeOf(tree)));
    }

    @Override
    public Void visitCompoundAssignment(CompoundAssignmentTree tree, Void v) {
        boolean divides = tree.getKind() == Tree.Kind.DIVIDE_ASSIGNMENT || tree.getKind() == Tree.Kind.REMAINDER_ASSIGNMENT;
        if (divides && !isSafeDivisor(tree.getExpression())) {
            tell(7, "a divisor that was not looked at", tree);
        }
        return super.visitCompoundAssignment(tree, v);
    }

    /** A constant that is not 0, or a name that stands behind "name > 0 ?". */
    private boolean isSafeDivisor(ExpressionTree divisor) {
        if (isNumberAboveZero(divisor)) {
            return true;
        }
        Tree inner = divisor;
        for (TreePath path = getCurrentPath(); path != null; path = path.getParentPath()) {
            if (path.getLeaf() instanceof ConditionalExpressionTree) {
                ConditionalExpressionTree choice = (ConditionalExpressionTree) path.getLeaf();
                String test = choice.getCondition().toString().replaceAll("[()]", "");
                if (test.equals(divisor + " > 0") && choice.getTrueExpression() == inner) {
                    return true;
                }
            }
            inner = path.getLeaf();
        }
        return false;
    }

    private boolean isNumberAboveZero(ExpressionTree tree) {
        if (tree instanceof LiteralTree) {
            Object value = ((LiteralTree) tree).getValue();
            return value instanceof Integer && (Integer) value > 0;
        }
        if (tree instanceof BinaryTree && tree.getKind() == Tree.Kind.MULTIPLY) {
            BinaryTree product = (BinaryTree) tree;
            return isNumberAboveZero(product.getLeftOperand()) && isNumberAboveZero(product.getRightOperand());
        }
        Element named = trees.getElement(new TreePath(getCurrentPath(), tree));
        Object value = named instanceof VariableElement ? ((VariableElement) named).getConstantValue() : null;
        return value instanceof Integer && (Integer) value > 0;
    }

    @Override
    public Void visitLiteral(LiteralTree tree, Void v) {
        Object value = tree.getValue();
        if (value instanceof Double || value instanceof Float || value == null) {
            tell(3, "a number with a point, or null", tree);
        }
        if (value instanceof String) {
            for (char c : ((String) value).toCharArray()) {
                if (c < 1 || c > 127) {
                    tell(4, "a sign that is not 1 to 127", tree);
                }
            }
        }
        return super.visitLiteral(tree, v);
    }

    @Override
    public Void visitForLoop(ForLoopTree tree, Void v) {
        lookAtEnd(tree.getCondition(), tree);
        if (tree.getUpdate().isEmpty()) {
            tell(9, "a for that does not count", tree);
        }
        return super.visitForLoop(tree, v);
    }

    @Override
    public Void visitWhileLoop(WhileLoopTree tree, Void v) {
        lookAtEnd(tree.getCondition(), tree);
        return super.visitWhileLoop(tree, v);
    }

    @Override
    public Void visitDoWhileLoop(DoWhileLoopTree tree, Void v) {
        lookAtEnd(tree.getCondition(), tree);
        return super.visitDoWhileLoop(tree, v);
    }

    /** A loop's condition bounds something that its own lines count. */
    private void lookAtEnd(ExpressionTree condition, Tree loop) {
        Set<String> bounded = new HashSet<>();
        Set<String> counted = new HashSet<>();
        new TreeScanner<Void, Void>() {
            @Override
            public Void visitBinary(BinaryTree tree, Void v) {
                if (COMPARING.contains(tree.getKind())) {
                    bounded.add(tree.getLeftOperand().toString());
                }
                return super.visitBinary(tree, v);
            }
        }.scan(condition, null);
        new TreeScanner<Void, Void>() {
            @Override
            public Void visitUnary(UnaryTree tree, Void v) {
                if (COUNTING.contains(tree.getKind())) {
                    counted.add(tree.getExpression().toString());
                }
                return super.visitUnary(tree, v);
            }
        }.scan(loop, null);
        bounded.retainAll(counted);
        if (bounded.isEmpty()) {
            tell(9, "a loop whose end is not seen", loop);
        }
    }

    // ---- what the class never needs

    @Override
    public Void scan(Tree tree, Void v) {
        if (tree != null && NEVER.containsKey(tree.getKind())) {
            tell(NEVER.get(tree.getKind()), "a " + tree.getKind(), tree);
        }
        return super.scan(tree, v);
    }

    @Override
    public Void visitMemberSelect(MemberSelectTree tree, Void v) {
        lookAtField(tree);
        return super.visitMemberSelect(tree, v);
    }

    @Override
    public Void visitIdentifier(IdentifierTree tree, Void v) {
        lookAtField(tree);
        return super.visitIdentifier(tree, v);
    }

    /** A field of the library is nothing that rule 4 lists. */
    private void lookAtField(Tree tree) {
        Element named = element();
        boolean field = named != null && named.getKind() == ElementKind.FIELD;
        if (field && !isOwn(named.getEnclosingElement().toString()) && !named.getSimpleName().contentEquals("length")) {
            tell(4, "a field of the library: " + tree, tree);
        }
    }
}
