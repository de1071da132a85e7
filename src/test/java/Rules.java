import com.sun.source.tree.*;
import com.sun.source.util.JavacTask;
import com.sun.source.util.TreePath;
import com.sun.source.util.TreePathScanner;
import com.sun.source.util.TreeScanner;
import com.sun.source.util.Trees;
import java.io.IOException;
import java.net.URI;
import java.util.ArrayList;
import java.util.HashMap;
import java.util.HashSet;
import java.util.List;
import java.util.Map;
import java.util.Set;
import javax.lang.model.element.Element;
import javax.lang.model.element.ElementKind;
import javax.lang.model.element.ExecutableElement;
import javax.lang.model.element.Modifier;
import javax.lang.model.element.NestingKind;
import javax.lang.model.element.TypeElement;
import javax.lang.model.element.VariableElement;
import javax.lang.model.type.ArrayType;
import javax.lang.model.type.DeclaredType;
import javax.lang.model.type.TypeKind;
import javax.lang.model.type.TypeMirror;
import javax.tools.JavaFileObject;
import javax.tools.SimpleJavaFileObject;
import javax.tools.ToolProvider;

/**
 * Reads a source as javac does and tells which rules of LANGUAGE.md it breaks. Where a rule leaves
 * more than the class has any use for, the narrower reading is held: no call makes an object, no
 * method calls itself, and no reference is cast.
 */
final class Rules extends TreePathScanner<Void, Void> {
    private static final int MOST_PARAMETERS = 7, MOST_LINES = 60, MOST_DEEP = 8, MOST_CLASSES = 12, MOST_FIELDS = 20;
    private static final Set<String> LIBRARY = Set.of("java.lang.String", "java.lang.StringBuilder", "java.util.ArrayList",
            "java.util.List", "java.util.Arrays");
    private static final Set<String> FUNCTIONS = Set.of("java.lang.Integer", "java.lang.Long", "java.lang.Math");
    private static final Set<String> LISTED = Set.of("length", "charAt", "isEmpty", "equals", "indexOf", "substring",
            "toCharArray", "append", "setCharAt", "setLength", "deleteCharAt", "reverse", "toString", "add", "get", "set",
            "remove", "size", "clear", "of", "copyOf", "copyOfRange", "fill");

    private final Trees trees;
    private final CompilationUnitTree unit;
    private final List<String> broken = new ArrayList<>();
    private final Map<Element, Set<Element>> calls = new HashMap<>();
    private final Set<String> publicNames = new HashSet<>();
    private final List<ExecutableElement> privateOnes = new ArrayList<>();
    private int classes = 0;

    private Rules(Trees trees, CompilationUnitTree unit) {
        this.trees = trees;
        this.unit = unit;
    }

    /** One text for each place, "5, line 12: ..": the rule, where it is, and what is wrong there. */
    static List<String> brokenBy(String source) throws IOException {
        JavaFileObject file = new SimpleJavaFileObject(URI.create("string:///NamesInRow.java"), JavaFileObject.Kind.SOURCE) {
            @Override
            public CharSequence getCharContent(boolean ignoreEncodingErrors) {
                return source;
            }
        };
        List<String> faults = new ArrayList<>();
        JavacTask task = (JavacTask) ToolProvider.getSystemJavaCompiler().getTask(null, null,
                fault -> faults.add("0, line " + fault.getLineNumber() + ": " + fault.getMessage(null)),
                List.of("-proc:none", "-Xlint:none"), null, List.of(file));
        CompilationUnitTree unit = task.parse().iterator().next();
        task.analyze();
        if (!faults.isEmpty()) {
            return faults;
        }
        Rules rules = new Rules(Trees.instance(task), unit);
        rules.scan(new TreePath(unit), null);
        rules.end();
        return rules.broken;
    }

    private void say(int rule, Tree where, String what) {
        long start = trees.getSourcePositions().getStartPosition(unit, where);
        long line = start < 0 ? 0 : unit.getLineMap().getLineNumber(start);
        broken.add(rule + ", line " + line + ": " + what);
    }

    private void sayIf(boolean isBroken, int rule, String what) {
        if (isBroken) {
            say(rule, getCurrentPath().getLeaf(), what);
        }
    }

    private Element element() {
        return trees.getElement(getCurrentPath());
    }

    private TypeMirror typeOf(Tree tree) {
        return trees.getTypeMirror(new TreePath(getCurrentPath(), tree));
    }

    private ExecutableElement methodAround() {
        for (TreePath path = getCurrentPath(); path != null; path = path.getParentPath()) {
            if (path.getLeaf() instanceof MethodTree) {
                return (ExecutableElement) trees.getElement(path);
            }
        }
        return null;
    }

    private static TypeElement classOf(Element element) {
        Element around = element;
        while (around != null && !(around instanceof TypeElement)) {
            around = around.getEnclosingElement();
        }
        return (TypeElement) around;
    }

    private boolean isOwn(Element element) {
        TypeElement around = classOf(element);
        return around != null && trees.getTree(around) != null;
    }

    // ---- rule 1 and 2: the face and the classes inside

    @Override
    public Void visitCompilationUnit(CompilationUnitTree tree, Void nothing) {
        sayIf(tree.getPackage() != null, 1, "a package line");
        for (ImportTree one : tree.getImports()) {
            String name = one.getQualifiedIdentifier().toString();
            sayIf(one.isStatic() || !LIBRARY.contains(name) && !name.equals("java.util.Iterator"), 4, "import of " + name);
        }
        sayIf(tree.getTypeDecls().size() != 1, 1, "not one class alone");
        return super.visitCompilationUnit(tree, nothing);
    }

    @Override
    public Void visitClass(ClassTree tree, Void nothing) {
        classes++;
        TypeElement own = (TypeElement) element();
        Set<Modifier> modifiers = own.getModifiers();
        boolean isTop = own.getNestingKind() == NestingKind.TOP_LEVEL;
        boolean isInside = own.getNestingKind() == NestingKind.MEMBER;
        sayIf(isTop && !modifiers.containsAll(Set.of(Modifier.PUBLIC, Modifier.FINAL)), 1, "not public and final");
        sayIf(!isTop && !isInside, 2, "a local or an anonymous class");
        sayIf(isInside && !modifiers.contains(Modifier.STATIC), 2, "a class inside that isn't static");
        sayIf(isInside && (modifiers.contains(Modifier.PUBLIC) || modifiers.contains(Modifier.PROTECTED)), 1, "a class for all");
        int fields = 0;
        for (Element member : own.getEnclosedElements()) {
            boolean isField = member.getKind() == ElementKind.FIELD;
            fields += isField && !member.getModifiers().contains(Modifier.STATIC) ? 1 : 0;
        }
        sayIf(fields > MOST_FIELDS, 11, fields + " fields");
        return super.visitClass(tree, nothing);
    }

    @Override
    public Void visitMethod(MethodTree tree, Void nothing) {
        ExecutableElement own = (ExecutableElement) element();
        Set<Modifier> modifiers = own.getModifiers();
        String name = own.getSimpleName().toString();
        boolean isTop = classOf(own).getNestingKind() == NestingKind.TOP_LEVEL;
        boolean isPrivate = modifiers.contains(Modifier.PRIVATE);
        sayIf(isTop && !isPrivate && !modifiers.contains(Modifier.PUBLIC), 1, name + " is neither public nor private");
        if (isTop && modifiers.contains(Modifier.PUBLIC)) {
            publicNames.add(name);
        } else if (own.getKind() == ElementKind.METHOD && isPrivate) {
            privateOnes.add(own);
        }
        sayIf(modifiers.contains(Modifier.SYNCHRONIZED), 6, name + " is synchronized");
        sayIf(!own.getThrownTypes().isEmpty(), 6, name + " throws");
        sayIf(own.getParameters().isEmpty() && Set.of("hashCode", "toString").contains(name) || name.equals("equals"), 6, name);
        sayIf(tree.getParameters().size() > MOST_PARAMETERS, 11, name + " takes " + tree.getParameters().size());
        long start = trees.getSourcePositions().getStartPosition(unit, tree);
        long end = trees.getSourcePositions().getEndPosition(unit, tree);
        if (start >= 0 && end >= start) {
            long lines = unit.getLineMap().getLineNumber(end) - unit.getLineMap().getLineNumber(start) + 1;
            sayIf(lines > MOST_LINES, 11, name + " has " + lines + " lines");
        }
        if (own.getReturnType().getKind() != TypeKind.VOID) {
            checkType(own.getReturnType(), name);
        }
        calls.putIfAbsent(own, new HashSet<>());
        return super.visitMethod(tree, nothing);
    }

    @Override
    public Void visitLambdaExpression(LambdaExpressionTree tree, Void nothing) {
        say(2, tree, "a lambda");
        return super.visitLambdaExpression(tree, nothing);
    }

    @Override
    public Void visitMemberReference(MemberReferenceTree tree, Void nothing) {
        say(2, tree, "a method reference");
        return super.visitMemberReference(tree, nothing);
    }

    // ---- rules 3 and 5: types and static fields

    @Override
    public Void visitVariable(VariableTree tree, Void nothing) {
        VariableElement own = (VariableElement) element();
        Set<Modifier> modifiers = own.getModifiers();
        checkType(own.asType(), own.getSimpleName().toString());
        if (own.getKind() == ElementKind.FIELD) {
            boolean isTop = classOf(own).getNestingKind() == NestingKind.TOP_LEVEL;
            boolean isConstant = modifiers.containsAll(Set.of(Modifier.PUBLIC, Modifier.STATIC, Modifier.FINAL));
            sayIf(isTop && !isConstant && !modifiers.contains(Modifier.PRIVATE), 1, own + " is neither a constant nor private");
            if (modifiers.contains(Modifier.STATIC)) {
                sayIf(!modifiers.contains(Modifier.FINAL), 5, own + " is static and not final");
                sayIf(!isConstantOfAKind(own, tree.getInitializer()), 5, own + " is static and no constant");
            }
        }
        return super.visitVariable(tree, nothing);
    }

    private static boolean isConstantOfAKind(VariableElement own, ExpressionTree initializer) {
        if (own.asType().getKind() != TypeKind.ARRAY) {
            return own.getConstantValue() != null;
        }
        TypeKind of = ((ArrayType) own.asType()).getComponentType().getKind();
        return Set.of(TypeKind.INT, TypeKind.LONG, TypeKind.CHAR, TypeKind.BYTE).contains(of)
                && initializer instanceof NewArrayTree && ((NewArrayTree) initializer).getInitializers() != null;
    }

    private void checkType(TypeMirror type, String what) {
        TypeMirror of = type;
        int dimensions = 0;
        while (of.getKind() == TypeKind.ARRAY) {
            of = ((ArrayType) of).getComponentType();
            dimensions++;
        }
        boolean isFine = dimensions <= 2;
        if (!of.getKind().isPrimitive()) {
            Element named = of.getKind() == TypeKind.DECLARED ? ((DeclaredType) of).asElement() : null;
            boolean isListed = named != null && dimensions == 0 && LIBRARY.contains(named.toString());
            boolean isOwnClass = named != null && dimensions <= 1 && isOwn(named);
            isFine = isListed || isOwnClass || of.getKind() == TypeKind.TYPEVAR;
        }
        sayIf(!isFine, 3, what + " is " + type);
    }

    @Override
    public Void visitBlock(BlockTree tree, Void nothing) {
        sayIf(tree.isStatic(), 5, "a static block");
        return super.visitBlock(tree, nothing);
    }

    @Override
    public Void visitAssignment(AssignmentTree tree, Void nothing) {
        checkChanged(tree.getVariable());
        return super.visitAssignment(tree, nothing);
    }

    @Override
    public Void visitCompoundAssignment(CompoundAssignmentTree tree, Void nothing) {
        checkChanged(tree.getVariable());
        sayIf(isText(tree.getVariable()), 10, "texts joined by +=");
        return super.visitCompoundAssignment(tree, nothing);
    }

    @Override
    public Void visitUnary(UnaryTree tree, Void nothing) {
        checkChanged(tree.getExpression());
        return super.visitUnary(tree, nothing);
    }

    private void checkChanged(ExpressionTree changed) {
        if (changed instanceof ArrayAccessTree) {
            ExpressionTree array = ((ArrayAccessTree) changed).getExpression();
            Element named = trees.getElement(new TreePath(new TreePath(getCurrentPath(), changed), array));
            boolean isStatic = named != null && named.getModifiers().contains(Modifier.STATIC);
            sayIf(isStatic && named.getKind() == ElementKind.FIELD, 5, "an element of " + named + " is changed");
        }
    }

    // ---- rules 4 and 13: the library

    @Override
    public Void visitMethodInvocation(MethodInvocationTree tree, Void nothing) {
        ExecutableElement called = (ExecutableElement) element();
        if (called.getKind() == ElementKind.CONSTRUCTOR) {
            return super.visitMethodInvocation(tree, nothing);
        }
        if (isOwn(called)) {
            ExecutableElement around = methodAround();
            Element caller = around != null ? around : trees.getElement(trees.getPath(unit, unit.getTypeDecls().get(0)));
            calls.computeIfAbsent(caller, none -> new HashSet<>()).add(called);
        } else {
            sayIf(!isListed(called), 4, "a call of " + classOf(called) + "." + called);
        }
        return super.visitMethodInvocation(tree, nothing);
    }

    private static boolean isListed(ExecutableElement called) {
        String owner = classOf(called).getQualifiedName().toString();
        String name = called.getSimpleName().toString();
        if (FUNCTIONS.contains(owner)) {
            boolean isOverNumbers = called.getModifiers().contains(Modifier.STATIC) && !name.endsWith("Exact");
            for (VariableElement parameter : called.getParameters()) {
                isOverNumbers &= Set.of(TypeKind.INT, TypeKind.LONG).contains(parameter.asType().getKind());
            }
            return isOverNumbers && !called.getParameters().isEmpty();
        }
        boolean isCopy = owner.equals("java.lang.System") && name.equals("arraycopy");
        return isCopy || LIBRARY.contains(owner) && LISTED.contains(name);
    }

    @Override
    public Void visitMemberSelect(MemberSelectTree tree, Void nothing) {
        Element named = element();
        boolean isLibraryField = named != null && named.getKind() == ElementKind.FIELD && classOf(named) != null && !isOwn(named);
        // The length of an array is a field of no class.
        sayIf(isLibraryField && !named.getSimpleName().contentEquals("length"), 4, tree.toString());
        return super.visitMemberSelect(tree, nothing);
    }

    @Override
    public Void visitLiteral(LiteralTree tree, Void nothing) {
        if (tree.getValue() instanceof String || tree.getValue() instanceof Character) {
            sayIf(!String.valueOf(tree.getValue()).matches("[\\x01-\\x7f]*"), 4, "a sign above 127");
        }
        return super.visitLiteral(tree, nothing);
    }

    // ---- rules 6 and 10: what is not written

    @Override
    public Void visitThrow(ThrowTree tree, Void nothing) {
        say(6, tree, "throw");
        return super.visitThrow(tree, nothing);
    }

    @Override
    public Void visitTry(TryTree tree, Void nothing) {
        say(6, tree, "try");
        return super.visitTry(tree, nothing);
    }

    @Override
    public Void visitSynchronized(SynchronizedTree tree, Void nothing) {
        say(6, tree, "synchronized");
        return super.visitSynchronized(tree, nothing);
    }

    @Override
    public Void visitAssert(AssertTree tree, Void nothing) {
        say(6, tree, "assert");
        return super.visitAssert(tree, nothing);
    }

    @Override
    public Void visitTypeCast(TypeCastTree tree, Void nothing) {
        TypeMirror to = typeOf(tree.getType());
        sayIf(to != null && !to.getKind().isPrimitive(), 6, "a cast to " + to);
        return super.visitTypeCast(tree, nothing);
    }

    @Override
    public Void visitBinary(BinaryTree tree, Void nothing) {
        boolean isSame = tree.getKind() == Tree.Kind.EQUAL_TO || tree.getKind() == Tree.Kind.NOT_EQUAL_TO;
        sayIf(isSame && isText(tree.getLeftOperand()) && isText(tree.getRightOperand()), 6, "two texts by == or !=");
        boolean isJoined = isText(tree.getLeftOperand()) || isText(tree.getRightOperand());
        sayIf(tree.getKind() == Tree.Kind.PLUS && isJoined, 10, "texts joined by +");
        return super.visitBinary(tree, nothing);
    }

    private boolean isText(ExpressionTree tree) {
        TypeMirror type = typeOf(tree);
        return type != null && type.toString().equals("java.lang.String");
    }

    // ---- rules 7 and 12: what is made

    @Override
    public Void visitNewClass(NewClassTree tree, Void nothing) {
        checkMadeOnce("an object");
        TypeElement made = classOf(element());
        sayIf(!isOwn(made) && !LIBRARY.contains(made.getQualifiedName().toString()), 4, "new " + made);
        return super.visitNewClass(tree, nothing);
    }

    @Override
    public Void visitNewArray(NewArrayTree tree, Void nothing) {
        checkMadeOnce("an array");
        for (ExpressionTree length : tree.getDimensions()) {
            Element named = trees.getElement(new TreePath(getCurrentPath(), length));
            Object value = named instanceof VariableElement ? ((VariableElement) named).getConstantValue()
                    : length instanceof LiteralTree ? ((LiteralTree) length).getValue() : null;
            sayIf(!(value instanceof Integer) || (Integer) value < 0, 7, "a length that is no constant: " + length);
        }
        return super.visitNewArray(tree, nothing);
    }

    private void checkMadeOnce(String what) {
        ExecutableElement around = methodAround();
        sayIf(around != null && around.getKind() == ElementKind.METHOD, 12, what + " made by " + around);
    }

    // ---- rule 9: loops

    @Override
    public Void visitForLoop(ForLoopTree tree, Void nothing) {
        checkEnd(tree.getCondition(), tree);
        return super.visitForLoop(tree, nothing);
    }

    @Override
    public Void visitWhileLoop(WhileLoopTree tree, Void nothing) {
        checkEnd(tree.getCondition(), tree);
        return super.visitWhileLoop(tree, nothing);
    }

    @Override
    public Void visitDoWhileLoop(DoWhileLoopTree tree, Void nothing) {
        checkEnd(tree.getCondition(), tree);
        return super.visitDoWhileLoop(tree, nothing);
    }

    /** One of the numbers that the condition holds below a bound is counted up in the loop, or one above it down. */
    private void checkEnd(ExpressionTree condition, Tree loop) {
        Set<String> up = new HashSet<>();
        Set<String> down = new HashSet<>();
        new TreeScanner<Void, Void>() {
            @Override
            public Void visitUnary(UnaryTree tree, Void nothing) {
                Tree.Kind kind = tree.getKind();
                if (kind == Tree.Kind.POSTFIX_INCREMENT || kind == Tree.Kind.PREFIX_INCREMENT) {
                    up.add(tree.getExpression().toString());
                }
                if (kind == Tree.Kind.POSTFIX_DECREMENT || kind == Tree.Kind.PREFIX_DECREMENT) {
                    down.add(tree.getExpression().toString());
                }
                return super.visitUnary(tree, nothing);
            }
        }.scan(loop, null);
        sayIf(condition == null || !isBounded(condition, up, down), 9, "a loop without an end that can be seen");
    }

    private static boolean isBounded(ExpressionTree condition, Set<String> up, Set<String> down) {
        if (condition instanceof ParenthesizedTree) {
            return isBounded(((ParenthesizedTree) condition).getExpression(), up, down);
        }
        if (!(condition instanceof BinaryTree)) {
            return false;
        }
        BinaryTree both = (BinaryTree) condition;
        switch (both.getKind()) {
            case CONDITIONAL_AND:
                return isBounded(both.getLeftOperand(), up, down) || isBounded(both.getRightOperand(), up, down);
            case LESS_THAN, LESS_THAN_EQUAL:
                return up.contains(both.getLeftOperand().toString());
            case GREATER_THAN, GREATER_THAN_EQUAL:
                return down.contains(both.getLeftOperand().toString());
            default:
                return false;
        }
    }

    // ---- rules 1, 8 and 11: of the whole file

    private void end() {
        for (ExecutableElement one : privateOnes) {
            if (publicNames.contains(one.getSimpleName().toString())) {
                say(1, unit, "a private method bears the name of " + one.getSimpleName());
            }
        }
        if (classes > MOST_CLASSES) {
            say(11, unit, classes + " classes");
        }
        for (Element caller : calls.keySet()) {
            follow(caller, new ArrayList<>(List.of(caller)));
        }
    }

    private void follow(Element caller, List<Element> open) {
        for (Element called : calls.getOrDefault(caller, Set.of())) {
            if (open.contains(called)) {
                say(8, unit, called + " calls itself");
            } else if (open.size() == MOST_DEEP) {
                say(11, unit, "calls more than eight deep: " + open);
            } else {
                open.add(called);
                follow(called, open);
                open.remove(open.size() - 1);
            }
        }
    }
}
