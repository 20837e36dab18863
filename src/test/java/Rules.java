import com.sun.source.tree.*;
import com.sun.source.util.JavacTask;
import com.sun.source.util.TreePath;
import com.sun.source.util.TreePathScanner;
import com.sun.source.util.TreeScanner;
import com.sun.source.util.Trees;
import java.io.IOException;
import java.net.URI;
import java.util.ArrayList;
import java.util.HashSet;
import java.util.List;
import java.util.Map;
import java.util.Set;
import javax.lang.model.element.Element;
import javax.lang.model.element.ElementKind;
import javax.lang.model.element.ExecutableElement;
import javax.lang.model.element.Modifier;
import javax.lang.model.element.TypeElement;
import javax.lang.model.element.VariableElement;
import javax.lang.model.type.ArrayType;
import javax.lang.model.type.DeclaredType;
import javax.lang.model.type.TypeKind;
import javax.lang.model.type.TypeMirror;
import javax.tools.Diagnostic;
import javax.tools.DiagnosticCollector;
import javax.tools.JavaFileObject;
import javax.tools.SimpleJavaFileObject;
import javax.tools.ToolProvider;

/**
 * Looks in the text of a program for what breaks the rules of ../shared/LANGUAGE.md, as far as the
 * compiler's own trees can tell. Where a rule asks for judgement, this looks for more than the rule
 * does, as the program can do without it.
 */
final class Rules extends TreePathScanner<Void, Void> {
    private static final int MOST_LINES = 60;
    private static final int MOST_PARAMETERS = 7;
    private static final int MOST_CLASSES = 12;
    private static final int MOST_FIELDS = 20;
    private static final int MOST_CALLS_DEEP = 8;

    private static final Set<String> IMPORTS = Set.of("java.util.ArrayList", "java.util.Arrays", "java.util.Iterator",
            "java.util.List", "java.util.NoSuchElementException");
    private static final Set<String> TYPES = Set.of("java.lang.String", "java.lang.StringBuilder", "java.lang.Integer",
            "java.util.ArrayList", "java.util.List", "java.util.Iterator", "java.lang.Iterable", "java.lang.Comparable");
    private static final Set<String> EXCEPTIONS = Set.of("java.lang.IllegalStateException",
            "java.lang.IllegalArgumentException", "java.lang.IndexOutOfBoundsException", "java.lang.ArithmeticException",
            "java.lang.UnsupportedOperationException", "java.util.NoSuchElementException", "java.lang.RuntimeException");
    private static final Set<String> OF_LISTS = Set.of("add", "get", "set", "remove", "size", "isEmpty", "clear", "of");
    private static final Map<String, Set<String>> LIBRARY = Map.ofEntries(
            Map.entry("java.lang.String",
                    Set.of("length", "charAt", "isEmpty", "equals", "indexOf", "substring", "toCharArray")),
            Map.entry("java.lang.StringBuilder", Set.of("append", "charAt", "setCharAt", "setLength", "deleteCharAt",
                    "reverse", "length", "toString")),
            Map.entry("java.util.ArrayList", OF_LISTS),
            Map.entry("java.util.List", OF_LISTS),
            Map.entry("java.util.Iterator", Set.of("hasNext", "next")),
            Map.entry("java.lang.Iterable", Set.of("iterator")),
            Map.entry("java.lang.Comparable", Set.of("compareTo")),
            Map.entry("java.lang.System", Set.of("arraycopy")),
            Map.entry("java.util.Arrays", Set.of("copyOf", "copyOfRange", "fill")));
    private static final Set<String> OF_NUMBERS = Set.of("java.lang.Integer", "java.lang.Long", "java.lang.Math");
    private static final Set<TypeKind> NUMBERS = Set.of(TypeKind.INT, TypeKind.LONG, TypeKind.SHORT, TypeKind.BYTE,
            TypeKind.CHAR, TypeKind.DOUBLE, TypeKind.FLOAT);
    private static final Set<TypeKind> OF_STATIC_ARRAYS = Set.of(TypeKind.INT, TypeKind.LONG, TypeKind.CHAR, TypeKind.BYTE);
    private static final Set<TypeKind> OF_CONSTANTS = Set.of(TypeKind.INT, TypeKind.LONG, TypeKind.CHAR, TypeKind.BOOLEAN);

    private final Trees trees;
    private final CompilationUnitTree unit;
    private final List<String> broken = new ArrayList<>();
    private final Set<String> publicNames = new HashSet<>();
    private final Calls calls = new Calls();
    private TypeElement top;
    private int classes = 0;

    private Rules(Trees trees, CompilationUnitTree unit) {
        this.trees = trees;
        this.unit = unit;
    }

    /** What is broken, each with the number of its rule; the text is that of one file. */
    static List<String> broken(String name, String text) throws IOException {
        JavaFileObject file = new SimpleJavaFileObject(URI.create("string:///" + name + ".java"), JavaFileObject.Kind.SOURCE) {
            @Override
            public CharSequence getCharContent(boolean ignoreErrors) {
                return text;
            }
        };
        DiagnosticCollector<JavaFileObject> told = new DiagnosticCollector<>();
        JavacTask task = (JavacTask) ToolProvider.getSystemJavaCompiler()
                .getTask(null, null, told, List.of("-proc:none"), null, List.of(file));
        CompilationUnitTree unit = task.parse().iterator().next();
        task.analyze();
        for (Diagnostic<?> one : told.getDiagnostics()) {
            if (one.getKind() == Diagnostic.Kind.ERROR) {
                return List.of("does not compile: " + one);
            }
        }
        Rules rules = new Rules(Trees.instance(task), unit);
        rules.lookAtAll();
        return rules.broken;
    }

    private void lookAtAll() {
        if (unit.getPackageName() != null) {
            tell(1, unit, "a package line");
        }
        if (unit.getTypeDecls().size() != 1) {
            tell(2, unit, "more than one class in the file");
            return;
        }
        top = (TypeElement) trees.getElement(new TreePath(new TreePath(unit), unit.getTypeDecls().get(0)));
        for (Element member : top.getEnclosedElements()) {
            if (member.getKind() == ElementKind.METHOD && member.getModifiers().contains(Modifier.PUBLIC)) {
                publicNames.add(member.getSimpleName().toString());
            }
        }
        scan(new TreePath(unit), null);
        tellIf(classes > MOST_CLASSES, 11, unit, classes + " classes");
        tellIf(calls.deepest() > MOST_CALLS_DEEP, 11, unit, calls.deepest() + " calls deep");
        for (String method : calls.recursionsWithoutDepth()) {
            tell(8, unit, "a recursion without a depth: " + method);
        }
    }

    private void tell(int rule, Tree at, String what) {
        long start = trees.getSourcePositions().getStartPosition(unit, at);
        long line = start < 0 ? 0 : unit.getLineMap().getLineNumber(start);
        broken.add("rule " + rule + ", line " + line + ": " + what);
    }

    private void tellIf(boolean broken, int rule, Tree at, String what) {
        if (broken) {
            tell(rule, at, what);
        }
    }

    // ---- the file, its classes and their members

    @Override
    public Void visitImport(ImportTree tree, Void none) {
        boolean known = !tree.isStatic() && IMPORTS.contains(tree.getQualifiedIdentifier().toString());
        tellIf(!known, 4, tree, tree.toString().trim());
        return null;
    }

    @Override
    public Void visitClass(ClassTree tree, Void none) {
        classes++;
        TypeElement element = (TypeElement) here();
        Set<Modifier> modifiers = element.getModifiers();
        if (element.equals(top)) {
            tellIf(!modifiers.containsAll(Set.of(Modifier.PUBLIC, Modifier.FINAL)), 1, tree, "a class not public and final");
        } else {
            tellIf(modifiers.contains(Modifier.PUBLIC) || modifiers.contains(Modifier.PROTECTED), 1, tree,
                    "a class inside that is seen outside");
            tellIf(!modifiers.contains(Modifier.STATIC), 2, tree, "a class inside that is not static");
        }
        tellIf(isThrowable(element.getSuperclass()), 6, tree, "an exception class");
        int fields = 0;
        for (Tree member : tree.getMembers()) {
            if (member instanceof BlockTree && ((BlockTree) member).isStatic()) {
                tell(5, member, "a static block");
            }
            if (member instanceof VariableTree && !((VariableTree) member).getModifiers().getFlags().contains(Modifier.STATIC)) {
                fields++;
            }
        }
        tellIf(fields > MOST_FIELDS, 11, tree, fields + " fields");
        return super.visitClass(tree, none);
    }

    @Override
    public Void visitMethod(MethodTree tree, Void none) {
        ExecutableElement method = (ExecutableElement) here();
        String name = tree.getName().toString();
        tellIf(method.getModifiers().contains(Modifier.PRIVATE) && publicNames.contains(name), 1, tree,
                "a private method with a public one's name: " + name);
        tellIf(Set.of("equals", "hashCode", "toString").contains(name), 6, tree, "an own " + name);
        tellIf(method.getModifiers().contains(Modifier.SYNCHRONIZED), 6, tree, "synchronized");
        tellIf(tree.getParameters().size() > MOST_PARAMETERS, 11, tree, "too many parameters: " + name);
        tellIf(linesOf(tree) > MOST_LINES, 11, tree, "too long: " + name);
        tellIf(holds(tree, Tree.Kind.TRY) && holds(tree, Tree.Kind.THROW), 6, tree, "try and throw in one method: " + name);
        tellIf(!isAllowed(method.getReturnType()), 3, tree, "the type " + method.getReturnType());
        for (TypeMirror thrown : method.getThrownTypes()) {
            tellIf(!EXCEPTIONS.contains(thrown.toString()), 6, tree, "the exception " + thrown);
        }
        calls.addMethod(method);
        return super.visitMethod(tree, none);
    }

    private long linesOf(Tree tree) {
        long start = trees.getSourcePositions().getStartPosition(unit, tree);
        long end = trees.getSourcePositions().getEndPosition(unit, tree);
        // what the compiler adds, such as a constructor, has no end in the text
        return end < 0 ? 0 : unit.getLineMap().getLineNumber(end) - unit.getLineMap().getLineNumber(start) + 1;
    }

    private static boolean holds(Tree tree, Tree.Kind kind) {
        boolean[] found = {false};
        new TreeScanner<Void, Void>() {
            @Override
            public Void scan(Tree one, Void none) {
                found[0] |= one != null && one.getKind() == kind;
                return super.scan(one, none);
            }
        }.scan(tree, null);
        return found[0];
    }

    @Override
    public Void visitVariable(VariableTree tree, Void none) {
        VariableElement variable = (VariableElement) here();
        TypeMirror type = variable.asType();
        Set<Modifier> modifiers = variable.getModifiers();
        if (variable.getKind() == ElementKind.EXCEPTION_PARAMETER) {
            tellIf(!EXCEPTIONS.contains(type.toString()), 6, tree, "a catch of " + type);
        } else {
            tellIf(!isAllowed(type), 3, tree, "the type " + type);
        }
        if (variable.getKind() == ElementKind.FIELD && modifiers.contains(Modifier.STATIC)) {
            tellIf(!modifiers.contains(Modifier.FINAL), 5, tree, "a static field that is not final");
            tellIf(!isOfConstants(type) || tree.getInitializer() == null, 5, tree, "a static field that is no constant");
        } else if (variable.getKind() == ElementKind.FIELD) {
            // what only the constructor sets can't be null behind it
            tellIf(!type.getKind().isPrimitive() && !modifiers.contains(Modifier.FINAL), 7, tree, "a field that may be null");
        }
        return super.visitVariable(tree, none);
    }

    private boolean isOfConstants(TypeMirror type) {
        if (type.getKind() == TypeKind.ARRAY) {
            TypeMirror of = ((ArrayType) type).getComponentType();
            return OF_STATIC_ARRAYS.contains(of.getKind()) || isOwn(of);
        }
        return OF_CONSTANTS.contains(type.getKind()) || type.toString().equals("java.lang.String");
    }

    // ---- types

    private boolean isAllowed(TypeMirror type) {
        if (type.getKind() == TypeKind.ARRAY) {
            return isAllowedArray((ArrayType) type);
        }
        return type.getKind().isPrimitive() || type.getKind() == TypeKind.VOID || type.getKind() == TypeKind.TYPEVAR
                || isOwn(type) || TYPES.contains(erased(type));
    }

    private boolean isAllowedArray(ArrayType type) {
        TypeMirror of = type.getComponentType();
        if (of.getKind() == TypeKind.ARRAY) {
            return NUMBERS.contains(((ArrayType) of).getComponentType().getKind());
        }
        return of.getKind().isPrimitive() || isOwn(of);
    }

    private boolean isOwn(TypeMirror type) {
        return type.getKind() == TypeKind.DECLARED && isInside(((DeclaredType) type).asElement());
    }

    private boolean isInside(Element element) {
        for (Element at = element; at != null; at = at.getEnclosingElement()) {
            if (at.equals(top)) {
                return true;
            }
        }
        return false;
    }

    private static String erased(TypeMirror type) {
        return type.getKind() == TypeKind.DECLARED
                ? ((TypeElement) ((DeclaredType) type).asElement()).getQualifiedName().toString() : type.toString();
    }

    private static boolean isThrowable(TypeMirror type) {
        for (TypeMirror at = type; at.getKind() == TypeKind.DECLARED;
                at = ((TypeElement) ((DeclaredType) at).asElement()).getSuperclass()) {
            if (at.toString().equals("java.lang.Throwable")) {
                return true;
            }
        }
        return false;
    }

    private Element here() {
        return trees.getElement(getCurrentPath());
    }

    private TypeMirror typeOf(Tree tree) {
        return trees.getTypeMirror(new TreePath(getCurrentPath(), tree));
    }

    // ---- calls and objects

    @Override
    public Void visitMethodInvocation(MethodInvocationTree tree, Void none) {
        ExecutableElement called = (ExecutableElement) trees.getElement(new TreePath(getCurrentPath(), tree.getMethodSelect()));
        if (isInside(called)) {
            calls.addCall(around(), called);
        } else if (called.getKind() != ElementKind.CONSTRUCTOR) {
            tellIf(!isOfLibrary(tree, called), 4, tree, "a call of " + called.getEnclosingElement() + "." + called);
        }
        return super.visitMethodInvocation(tree, none);
    }

    private boolean isOfLibrary(MethodInvocationTree tree, ExecutableElement called) {
        String name = called.getSimpleName().toString();
        String owner = called.getEnclosingElement().toString();
        if (OF_NUMBERS.contains(owner)) {
            return called.getModifiers().contains(Modifier.STATIC) && !name.endsWith("Exact") && takesWholeNumbers(called);
        }
        if (name.equals("clone") && tree.getMethodSelect() instanceof MemberSelectTree) {
            TreePath select = new TreePath(getCurrentPath(), tree.getMethodSelect());
            ExpressionTree cloned = ((MemberSelectTree) tree.getMethodSelect()).getExpression();
            return trees.getTypeMirror(new TreePath(select, cloned)).getKind() == TypeKind.ARRAY;
        }
        return LIBRARY.getOrDefault(erased(called.getEnclosingElement().asType()), Set.of()).contains(name);
    }

    private static boolean takesWholeNumbers(ExecutableElement called) {
        for (VariableElement parameter : called.getParameters()) {
            TypeKind kind = parameter.asType().getKind();
            if (kind != TypeKind.INT && kind != TypeKind.LONG) {
                return false;
            }
        }
        return true;
    }

    /** The method that all here is in, or null in a field's initialiser. */
    private ExecutableElement around() {
        for (TreePath at = getCurrentPath(); at != null; at = at.getParentPath()) {
            if (at.getLeaf() instanceof MethodTree) {
                return (ExecutableElement) trees.getElement(at);
            }
        }
        return null;
    }

    @Override
    public Void visitNewClass(NewClassTree tree, Void none) {
        TypeMirror type = typeOf(tree.getIdentifier());
        boolean thrown = getCurrentPath().getParentPath().getLeaf() instanceof ThrowTree;
        if (isThrowable(type)) {
            tellIf(!thrown, 6, tree, "an exception that is not thrown");
        } else {
            tellIf(!isAllowed(type), 4, tree, "a new " + type);
            lookAtRoom(tree);
        }
        Element made = here();
        if (made != null && isInside(made)) {
            calls.addCall(around(), (ExecutableElement) made);
        }
        return super.visitNewClass(tree, none);
    }

    @Override
    public Void visitNewArray(NewArrayTree tree, Void none) {
        for (ExpressionTree length : tree.getDimensions()) {
            boolean isTested = length instanceof ConditionalExpressionTree || length instanceof LiteralTree;
            tellIf(!isTested, 7, tree, "a length that is not looked at");
        }
        if (!isStaticInitialiser()) {
            lookAtRoom(tree);
        }
        return super.visitNewArray(tree, none);
    }

    private boolean isStaticInitialiser() {
        Tree parent = getCurrentPath().getParentPath().getLeaf();
        return parent instanceof VariableTree && ((VariableTree) parent).getModifiers().getFlags().contains(Modifier.STATIC);
    }

    /** All calls of a run live in one room; where only constructors make objects, no number of calls fills it. */
    private void lookAtRoom(Tree tree) {
        ExecutableElement method = around();
        tellIf(method != null && method.getKind() != ElementKind.CONSTRUCTOR, 12, tree, "an object made by a call");
        for (TreePath at = getCurrentPath(); at != null; at = at.getParentPath()) {
            tellIf(isLoop(at.getLeaf()), 12, tree, "an object made in a loop");
        }
    }

    private static boolean isLoop(Tree tree) {
        return tree instanceof ForLoopTree || tree instanceof WhileLoopTree || tree instanceof DoWhileLoopTree
                || tree instanceof EnhancedForLoopTree;
    }

    // ---- what is not in the language

    @Override
    public Void visitLambdaExpression(LambdaExpressionTree tree, Void none) {
        tell(2, tree, "a lambda");
        return super.visitLambdaExpression(tree, none);
    }

    @Override
    public Void visitMemberReference(MemberReferenceTree tree, Void none) {
        tell(2, tree, "a method reference");
        return super.visitMemberReference(tree, none);
    }

    @Override
    public Void visitAssert(AssertTree tree, Void none) {
        tell(6, tree, "assert");
        return super.visitAssert(tree, none);
    }

    @Override
    public Void visitSynchronized(SynchronizedTree tree, Void none) {
        tell(6, tree, "synchronized");
        return super.visitSynchronized(tree, none);
    }

    @Override
    public Void visitSwitch(SwitchTree tree, Void none) {
        tellIf(typeOf(tree.getExpression()).toString().equals("java.lang.String"), 10, tree, "a switch on texts");
        return super.visitSwitch(tree, none);
    }

    @Override
    public Void visitLiteral(LiteralTree tree, Void none) {
        if (tree.getValue() instanceof String || tree.getValue() instanceof Character) {
            String text = tree.getValue().toString();
            tellIf(text.chars().anyMatch(c -> c < 1 || c > 127), 4, tree, "a sign outside of 1 to 127");
        }
        return super.visitLiteral(tree, none);
    }

    // ---- exceptions

    @Override
    public Void visitTry(TryTree tree, Void none) {
        tellIf(tree.getFinallyBlock() != null, 6, tree, "finally");
        tellIf(!tree.getResources().isEmpty(), 6, tree, "try with resources");
        return super.visitTry(tree, none);
    }

    @Override
    public Void visitCatch(CatchTree tree, Void none) {
        String name = tree.getParameter().getName().toString();
        tellIf(tree.getBlock().toString().matches("(?s).*\\b" + name + "\\b.*"), 6, tree, "a catch that uses the exception");
        return super.visitCatch(tree, none);
    }

    @Override
    public Void visitThrow(ThrowTree tree, Void none) {
        ExecutableElement method = around();
        tellIf(method == null || method.getKind() == ElementKind.CONSTRUCTOR, 6, tree, "a throw in a constructor");
        boolean isPlain = false;
        if (tree.getExpression() instanceof NewClassTree) {
            NewClassTree made = (NewClassTree) tree.getExpression();
            TreePath path = new TreePath(new TreePath(getCurrentPath(), made), made.getIdentifier());
            isPlain = EXCEPTIONS.contains(trees.getTypeMirror(path).toString()) && isWritten(made.getArguments());
        }
        tellIf(!isPlain, 6, tree, "a throw of " + tree.getExpression());
        return super.visitThrow(tree, none);
    }

    private static boolean isWritten(List<? extends ExpressionTree> arguments) {
        return arguments.isEmpty() || arguments.size() == 1 && arguments.get(0).getKind() == Tree.Kind.STRING_LITERAL;
    }

    // ---- what the machine would throw

    @Override
    public Void visitArrayAccess(ArrayAccessTree tree, Void none) {
        tellIf(!isLookedAt(tree.getExpression() + ".length"), 7, tree, "an index that is not looked at: " + tree);
        return super.visitArrayAccess(tree, none);
    }

    @Override
    public Void visitTypeCast(TypeCastTree tree, Void none) {
        boolean isSafe = typeOf(tree.getType()).getKind().isPrimitive() || isLookedAt(tree.getExpression() + " instanceof ");
        tellIf(!isSafe, 6, tree, "a cast without a test: " + tree);
        return super.visitTypeCast(tree, none);
    }

    @Override
    public Void visitBinary(BinaryTree tree, Void none) {
        switch (tree.getKind()) {
            case DIVIDE:
            case REMAINDER:
                lookAtDivisor(tree.getRightOperand());
                break;
            case PLUS:
                tellIf(typeOf(tree).toString().equals("java.lang.String"), 10, tree, "texts joined by +");
                break;
            case EQUAL_TO:
            case NOT_EQUAL_TO:
                tellIf(areTextsOrIntegers(tree), 6, tree, "texts or Integers compared by " + tree);
                break;
            default:
        }
        return super.visitBinary(tree, none);
    }

    private boolean areTextsOrIntegers(BinaryTree tree) {
        String left = typeOf(tree.getLeftOperand()).toString();
        return Set.of("java.lang.String", "java.lang.Integer").contains(left)
                && left.equals(typeOf(tree.getRightOperand()).toString());
    }

    @Override
    public Void visitCompoundAssignment(CompoundAssignmentTree tree, Void none) {
        switch (tree.getKind()) {
            case DIVIDE_ASSIGNMENT:
            case REMAINDER_ASSIGNMENT:
                lookAtDivisor(tree.getExpression());
                break;
            case PLUS_ASSIGNMENT:
                tellIf(typeOf(tree.getVariable()).toString().equals("java.lang.String"), 10, tree, "texts joined by +=");
                break;
            default:
        }
        return super.visitCompoundAssignment(tree, none);
    }

    private void lookAtDivisor(ExpressionTree divisor) {
        boolean isNumber = divisor.getKind() == Tree.Kind.INT_LITERAL && !divisor.toString().equals("0");
        tellIf(!isNumber && !isLookedAt(divisor.toString()), 7, divisor, "a divisor that is not looked at: " + divisor);
    }

    /** Whether a test, ahead of what is here, speaks of this. */
    private boolean isLookedAt(String what) {
        for (TreePath at = getCurrentPath(); !(at.getLeaf() instanceof ClassTree); at = at.getParentPath()) {
            Tree test = testOf(at.getParentPath().getLeaf());
            if (test != null && test != at.getLeaf() && test.toString().contains(what)) {
                return true;
            }
        }
        return false;
    }

    private static Tree testOf(Tree tree) {
        switch (tree.getKind()) {
            case CONDITIONAL_EXPRESSION: return ((ConditionalExpressionTree) tree).getCondition();
            case IF: return ((IfTree) tree).getCondition();
            case FOR_LOOP: return ((ForLoopTree) tree).getCondition();
            case WHILE_LOOP: return ((WhileLoopTree) tree).getCondition();
            case CONDITIONAL_AND:
            case CONDITIONAL_OR: return ((BinaryTree) tree).getLeftOperand();
            default: return null;
        }
    }

    // ---- loops

    @Override
    public Void visitForLoop(ForLoopTree tree, Void none) {
        lookAtEnd(tree, tree.getCondition());
        return super.visitForLoop(tree, none);
    }

    @Override
    public Void visitWhileLoop(WhileLoopTree tree, Void none) {
        lookAtEnd(tree, tree.getCondition());
        return super.visitWhileLoop(tree, none);
    }

    @Override
    public Void visitDoWhileLoop(DoWhileLoopTree tree, Void none) {
        lookAtEnd(tree, tree.getCondition());
        return super.visitDoWhileLoop(tree, none);
    }

    /** An end that can be seen: the condition holds something against a bound. */
    private void lookAtEnd(Tree loop, ExpressionTree condition) {
        boolean isBound = condition != null && (holds(condition, Tree.Kind.LESS_THAN)
                || holds(condition, Tree.Kind.LESS_THAN_EQUAL) || holds(condition, Tree.Kind.GREATER_THAN)
                || holds(condition, Tree.Kind.GREATER_THAN_EQUAL) || holds(condition, Tree.Kind.NOT_EQUAL_TO));
        tellIf(!isBound, 9, loop, "a loop without a bound");
    }
}
