import com.sun.source.tree.AnnotationTree;
import com.sun.source.tree.ArrayAccessTree;
import com.sun.source.tree.AssertTree;
import com.sun.source.tree.AssignmentTree;
import com.sun.source.tree.BinaryTree;
import com.sun.source.tree.BlockTree;
import com.sun.source.tree.ClassTree;
import com.sun.source.tree.CompilationUnitTree;
import com.sun.source.tree.CompoundAssignmentTree;
import com.sun.source.tree.DoWhileLoopTree;
import com.sun.source.tree.EnhancedForLoopTree;
import com.sun.source.tree.ExpressionTree;
import com.sun.source.tree.ForLoopTree;
import com.sun.source.tree.ImportTree;
import com.sun.source.tree.LambdaExpressionTree;
import com.sun.source.tree.LiteralTree;
import com.sun.source.tree.MemberReferenceTree;
import com.sun.source.tree.MethodInvocationTree;
import com.sun.source.tree.MethodTree;
import com.sun.source.tree.NewArrayTree;
import com.sun.source.tree.NewClassTree;
import com.sun.source.tree.ParenthesizedTree;
import com.sun.source.tree.SynchronizedTree;
import com.sun.source.tree.ThrowTree;
import com.sun.source.tree.Tree;
import com.sun.source.tree.TryTree;
import com.sun.source.tree.TypeCastTree;
import com.sun.source.tree.UnaryTree;
import com.sun.source.tree.VariableTree;
import com.sun.source.tree.WhileLoopTree;
import com.sun.source.util.JavacTask;
import com.sun.source.util.TreePath;
import com.sun.source.util.TreePathScanner;
import com.sun.source.util.Trees;
import java.io.IOException;
import java.net.URI;
import java.util.ArrayList;
import java.util.HashMap;
import java.util.HashSet;
import java.util.LinkedHashSet;
import java.util.List;
import java.util.Map;
import java.util.Set;
import javax.lang.model.element.Element;
import javax.lang.model.element.ElementKind;
import javax.lang.model.element.ExecutableElement;
import javax.lang.model.element.Modifier;
import javax.lang.model.element.TypeElement;
import javax.lang.model.element.VariableElement;
import javax.lang.model.type.ArrayType;
import javax.lang.model.type.DeclaredType;
import javax.lang.model.type.TypeKind;
import javax.lang.model.type.TypeMirror;
import javax.tools.DiagnosticCollector;
import javax.tools.JavaFileObject;
import javax.tools.SimpleJavaFileObject;
import javax.tools.ToolProvider;

/**
 * The rules of ../shared/LANGUAGE.md that can be seen in the compiler's tree of a text, each fault told as
 * "rule n, line l: what". It is narrower than the rules where the class needs no more: no recursion, no cast of objects.
 */
final class Language extends TreePathScanner<Void, Void> {
    private static final int MOST_CLASSES = 12;
    private static final int MOST_FIELDS = 20;
    private static final int MOST_PARAMETERS = 7;
    private static final int MOST_LINES = 60;
    private static final int MOST_CALLS_DEEP = 8;
    private static final Set<String> IMPORTS = Set.of("java.util.ArrayList", "java.util.Arrays", "java.util.List",
            "java.util.Iterator");
    private static final Set<String> FOREIGN_TYPES = Set.of("java.lang.String", "java.lang.StringBuilder",
            "java.util.ArrayList", "java.util.List");
    private static final Map<String, Set<String>> LIBRARY = Map.of(
            "java.lang.Object", Set.of("<init>"),
            "java.lang.String", Set.of("length", "charAt", "isEmpty", "equals", "indexOf", "substring", "toCharArray"),
            "java.lang.StringBuilder", Set.of("append", "charAt", "setCharAt", "setLength", "deleteCharAt", "reverse",
                    "length", "toString"),
            "java.util.ArrayList", Set.of("add", "get", "set", "remove", "size", "isEmpty", "clear"),
            "java.util.List", Set.of("add", "get", "set", "remove", "size", "isEmpty", "clear", "of"),
            "java.lang.Integer", Set.of("compare", "max", "min", "bitCount", "numberOfTrailingZeros",
                    "numberOfLeadingZeros", "highestOneBit", "lowestOneBit", "signum"),
            "java.lang.Long", Set.of("compare", "max", "min", "bitCount", "numberOfTrailingZeros",
                    "numberOfLeadingZeros", "highestOneBit", "lowestOneBit", "signum"),
            "java.lang.Math", Set.of("max", "min", "abs", "floorDiv", "floorMod"),
            "java.lang.System", Set.of("arraycopy"),
            "java.util.Arrays", Set.of("copyOf", "copyOfRange", "fill"));
    private static final Set<Modifier> NO_MODIFIERS = Set.of(Modifier.SYNCHRONIZED, Modifier.VOLATILE,
            Modifier.TRANSIENT, Modifier.NATIVE, Modifier.STRICTFP);

    private final Trees trees;
    private final CompilationUnitTree unit;
    private final List<String> faults = new ArrayList<>();
    private final Set<String> publicMethods = new HashSet<>();
    private final Map<Element, Set<Element>> callsOf = new HashMap<>();
    private int classes = 0;
    private Element method = null;

    private Language(Trees trees, CompilationUnitTree unit) {
        this.trees = trees;
        this.unit = unit;
    }

    static List<String> faultsOf(String text) throws IOException {
        DiagnosticCollector<JavaFileObject> said = new DiagnosticCollector<>();
        JavaFileObject file = new SimpleJavaFileObject(URI.create("string:///LostParcels.java"),
                JavaFileObject.Kind.SOURCE) {
            @Override
            public CharSequence getCharContent(boolean ignoreEncodingErrors) {
                return text;
            }
        };
        JavacTask task = (JavacTask) ToolProvider.getSystemJavaCompiler()
                .getTask(null, null, said, List.of("-proc:none"), null, List.of(file));
        CompilationUnitTree unit = task.parse().iterator().next();
        task.analyze();
        Language language = new Language(Trees.instance(task), unit);
        said.getDiagnostics().stream().filter(d -> d.getKind() == javax.tools.Diagnostic.Kind.ERROR)
                .forEach(d -> language.faults.add("it does not compile: " + d));
        if (language.faults.isEmpty()) {
            language.look(text);
        }
        return language.faults;
    }

    private void look(String text) {
        if (!text.chars().allMatch(c -> c < 128)) {
            faults.add("rule 4, line 0: signs below 128 alone");
        }
        if (unit.getPackageName() != null || unit.getTypeDecls().size() != 1) {
            faults.add("rule 1, line 0: one class without a package");
        }
        for (Tree member : ((ClassTree) unit.getTypeDecls().get(0)).getMembers()) {
            if (member instanceof MethodTree m && m.getReturnType() != null
                    && m.getModifiers().getFlags().contains(Modifier.PUBLIC)) {
                publicMethods.add(m.getName().toString());
            }
        }
        scan(unit, null);
        if (classes > MOST_CLASSES) {
            faults.add("rule 11, line 0: " + classes + " classes");
        }
        for (Element each : callsOf.keySet()) {
            followCalls(each, new LinkedHashSet<>());
        }
    }

    private void need(boolean holds, int rule, Tree where, String what) {
        if (!holds) {
            long at = trees.getSourcePositions().getStartPosition(unit, where);
            long line = at < 0 ? 0 : unit.getLineMap().getLineNumber(at);
            faults.add("rule " + rule + ", line " + line + ": " + what);
        }
    }

    private void followCalls(Element from, Set<Element> open) {
        if (!open.add(from)) {
            faults.add("rule 8, line 0: " + from + " calls itself");
            return;
        }
        if (open.size() > MOST_CALLS_DEEP) {
            faults.add("rule 11, line 0: calls " + open + " deep");
        } else {
            for (Element to : callsOf.getOrDefault(from, Set.of())) {
                followCalls(to, open);
            }
        }
        open.remove(from);
    }

    private Element elementHere() {
        return trees.getElement(getCurrentPath());
    }

    private TypeMirror typeOf(Tree part) {
        return trees.getTypeMirror(new TreePath(getCurrentPath(), part));
    }

    private static boolean isOwn(Element e) {
        for (Element at = e; at != null; at = at.getEnclosingElement()) {
            if (at.getSimpleName().contentEquals("LostParcels")) {
                return true;
            }
        }
        return false;
    }

    private static String nameOf(TypeMirror type) {
        return type instanceof DeclaredType d ? ((TypeElement) d.asElement()).getQualifiedName().toString() : "";
    }

    private static boolean isPlainType(TypeMirror type) {
        if (type.getKind() == TypeKind.ARRAY) {
            TypeMirror of = ((ArrayType) type).getComponentType();
            boolean two = of.getKind() == TypeKind.ARRAY && ((ArrayType) of).getComponentType().getKind().isPrimitive();
            return of.getKind().isPrimitive() || two || of instanceof DeclaredType d && isOwn(d.asElement());
        }
        if (type instanceof DeclaredType d) {
            return (isOwn(d.asElement()) || FOREIGN_TYPES.contains(nameOf(type)))
                    && d.getTypeArguments().stream().allMatch(Language::isHeldByLists);
        }
        return type.getKind().isPrimitive() || type.getKind() == TypeKind.TYPEVAR;
    }

    private static boolean isHeldByLists(TypeMirror type) {
        return nameOf(type).equals("java.lang.Integer") || type.getKind() == TypeKind.TYPEVAR
                || type instanceof DeclaredType d && isOwn(d.asElement());
    }

    @Override
    public Void visitImport(ImportTree tree, Void nothing) {
        String name = tree.getQualifiedIdentifier().toString();
        need(!tree.isStatic() && IMPORTS.contains(name), 4, tree, "import " + name);
        return null;
    }

    @Override
    public Void visitAnnotation(AnnotationTree tree, Void nothing) {
        need(false, 4, tree, "an annotation");
        return null;
    }

    @Override
    public Void visitClass(ClassTree tree, Void nothing) {
        classes++;
        Element element = elementHere();
        Tree around = getCurrentPath().getParentPath().getLeaf();
        Set<Modifier> flags = element.getModifiers();
        need(around == unit || around instanceof ClassTree, 2, tree, "a class inside a method");
        if (around instanceof ClassTree) {
            need(flags.contains(Modifier.STATIC), 2, tree, "a class inside that isn't static");
            need(!flags.contains(Modifier.PUBLIC) && !flags.contains(Modifier.PROTECTED), 1, tree, "a class to be seen");
        } else if (around == unit) {
            need(flags.contains(Modifier.PUBLIC) && flags.contains(Modifier.FINAL), 1, tree, "not public and final");
        }
        long fields = element.getEnclosedElements().stream()
                .filter(e -> e.getKind() == ElementKind.FIELD && !e.getModifiers().contains(Modifier.STATIC)).count();
        need(fields <= MOST_FIELDS, 11, tree, fields + " fields");
        for (Tree member : tree.getMembers()) {
            need(!(member instanceof BlockTree b) || !b.isStatic(), 5, member, "a static block");
        }
        return super.visitClass(tree, nothing);
    }

    @Override
    public Void visitMethod(MethodTree tree, Void nothing) {
        Element outer = method;
        method = elementHere();
        boolean inFace = method.getEnclosingElement().getEnclosingElement().getKind() == ElementKind.PACKAGE;
        boolean isPrivate = method.getModifiers().contains(Modifier.PRIVATE);
        need(!inFace || isPrivate || method.getModifiers().contains(Modifier.PUBLIC), 1, tree, "neither public nor private");
        need(!isPrivate || !publicMethods.contains(tree.getName().toString()), 1, tree, "a public method's name");
        need(tree.getParameters().size() <= MOST_PARAMETERS, 11, tree, "more than seven parameters");
        need(tree.getThrows().isEmpty(), 6, tree, "throws");
        need(method.getModifiers().stream().noneMatch(NO_MODIFIERS::contains), 13, tree, "a modifier");
        need(!Set.of("equals", "hashCode", "toString").contains(tree.getName().toString()), 6, tree, "a method of Object");
        TypeMirror answer = ((ExecutableElement) method).getReturnType();
        need(answer.getKind() == TypeKind.VOID || isPlainType(answer), 3, tree, "answers a " + answer);
        long begin = trees.getSourcePositions().getStartPosition(unit, tree);
        long end = trees.getSourcePositions().getEndPosition(unit, tree);
        if (begin >= 0 && end >= 0) {
            long lines = unit.getLineMap().getLineNumber(end) - unit.getLineMap().getLineNumber(begin) + 1;
            need(lines <= MOST_LINES, 11, tree, lines + " lines");
        }
        callsOf.computeIfAbsent(method, m -> new LinkedHashSet<>());
        super.visitMethod(tree, nothing);
        method = outer;
        return null;
    }

    @Override
    public Void visitVariable(VariableTree tree, Void nothing) {
        Element element = elementHere();
        TypeMirror type = element.asType();
        need(isPlainType(type), 3, tree, tree.getName() + " is a " + type);
        need(element.getModifiers().stream().noneMatch(NO_MODIFIERS::contains), 13, tree, "a modifier");
        if (element.getKind() == ElementKind.FIELD) {
            checkField(tree, element, type);
        }
        return super.visitVariable(tree, nothing);
    }

    private void checkField(VariableTree tree, Element element, TypeMirror type) {
        boolean inFace = element.getEnclosingElement().getEnclosingElement().getKind() == ElementKind.PACKAGE;
        need(!inFace || element.getModifiers().contains(Modifier.PRIVATE), 1, tree, tree.getName() + " is to be seen");
        if (element.getModifiers().contains(Modifier.STATIC)) {
            boolean constant = Set.of("int", "long", "boolean", "char", "java.lang.String").contains(type.toString());
            boolean row = Set.of("int[]", "long[]", "char[]", "byte[]").contains(type.toString())
                    && tree.getInitializer() instanceof NewArrayTree made && made.getInitializers() != null;
            need(element.getModifiers().contains(Modifier.FINAL) && (constant || row), 5, tree, tree.getName() + "");
        }
    }

    @Override
    public Void visitAssignment(AssignmentTree tree, Void nothing) {
        checkChanged(tree.getVariable());
        return super.visitAssignment(tree, nothing);
    }

    @Override
    public Void visitCompoundAssignment(CompoundAssignmentTree tree, Void nothing) {
        checkChanged(tree.getVariable());
        need(!nameOf(typeOf(tree.getVariable())).equals("java.lang.String"), 10, tree, "texts joined by +=");
        return super.visitCompoundAssignment(tree, nothing);
    }

    @Override
    public Void visitUnary(UnaryTree tree, Void nothing) {
        switch (tree.getKind()) {
            case POSTFIX_INCREMENT, POSTFIX_DECREMENT, PREFIX_INCREMENT, PREFIX_DECREMENT:
                checkChanged(tree.getExpression());
                break;
            default:
        }
        return super.visitUnary(tree, nothing);
    }

    private void checkChanged(ExpressionTree changed) {
        if (changed instanceof ArrayAccessTree at) {
            TreePath path = new TreePath(new TreePath(getCurrentPath(), changed), at.getExpression());
            Element row = trees.getElement(path);
            need(row == null || row.getKind() != ElementKind.FIELD || !row.getModifiers().contains(Modifier.STATIC), 5,
                    changed, "a static row is changed");
        }
    }

    @Override
    public Void visitBinary(BinaryTree tree, Void nothing) {
        String left = nameOf(typeOf(tree.getLeftOperand()));
        String right = nameOf(typeOf(tree.getRightOperand()));
        switch (tree.getKind()) {
            case PLUS -> need(!left.equals("java.lang.String") && !right.equals("java.lang.String"), 10, tree,
                    "texts joined by +");
            case EQUAL_TO, NOT_EQUAL_TO -> need(!left.startsWith("java.") || !right.startsWith("java."), 6, tree,
                    "== of two texts or numbers");
            default -> { }
        }
        return super.visitBinary(tree, nothing);
    }

    @Override
    public Void visitTypeCast(TypeCastTree tree, Void nothing) {
        need(typeOf(tree.getType()).getKind().isPrimitive() && typeOf(tree.getExpression()).getKind().isPrimitive(), 6,
                tree, "a cast of an object");
        return super.visitTypeCast(tree, nothing);
    }

    @Override
    public Void visitMethodInvocation(MethodInvocationTree tree, Void nothing) {
        Element called = elementHere();
        Element owner = called.getEnclosingElement();
        if (isOwn(owner)) {
            if (method != null) {
                callsOf.computeIfAbsent(method, m -> new LinkedHashSet<>()).add(called);
            }
        } else {
            String name = ((TypeElement) owner).getQualifiedName().toString();
            boolean isClone = called.getSimpleName().contentEquals("clone");
            need(LIBRARY.getOrDefault(name, Set.of()).contains(called.getSimpleName().toString()) || isClone, 4, tree,
                    name + "." + called.getSimpleName());
        }
        return super.visitMethodInvocation(tree, nothing);
    }

    @Override
    public Void visitNewClass(NewClassTree tree, Void nothing) {
        Element made = elementHere().getEnclosingElement();
        need(tree.getClassBody() == null, 2, tree, "a class without a name");
        need(isOwn(made) || Set.of("ArrayList", "StringBuilder", "String").contains(made.getSimpleName().toString()), 4,
                tree, "new " + made);
        if (method != null && isOwn(made)) {
            callsOf.computeIfAbsent(method, m -> new LinkedHashSet<>()).add(elementHere());
        }
        return super.visitNewClass(tree, nothing);
    }

    @Override
    public Void visitNewArray(NewArrayTree tree, Void nothing) {
        for (ExpressionTree length : tree.getDimensions()) {
            need(isConstant(new TreePath(getCurrentPath(), length)), 7, tree, "a row of a length that is reckoned");
        }
        return super.visitNewArray(tree, nothing);
    }

    private boolean isConstant(TreePath path) {
        Tree tree = path.getLeaf();
        if (tree instanceof BinaryTree b) {
            return isConstant(new TreePath(path, b.getLeftOperand())) && isConstant(new TreePath(path, b.getRightOperand()));
        }
        return tree instanceof LiteralTree
                || trees.getElement(path) instanceof VariableElement v && v.getConstantValue() != null;
    }

    @Override
    public Void visitLambdaExpression(LambdaExpressionTree tree, Void nothing) {
        need(false, 2, tree, "a lambda");
        return super.visitLambdaExpression(tree, nothing);
    }

    @Override
    public Void visitMemberReference(MemberReferenceTree tree, Void nothing) {
        need(false, 2, tree, "a method reference");
        return super.visitMemberReference(tree, nothing);
    }

    @Override
    public Void visitThrow(ThrowTree tree, Void nothing) {
        need(false, 6, tree, "throw");
        return super.visitThrow(tree, nothing);
    }

    @Override
    public Void visitTry(TryTree tree, Void nothing) {
        need(false, 6, tree, "try");
        return super.visitTry(tree, nothing);
    }

    @Override
    public Void visitSynchronized(SynchronizedTree tree, Void nothing) {
        need(false, 6, tree, "synchronized");
        return super.visitSynchronized(tree, nothing);
    }

    @Override
    public Void visitAssert(AssertTree tree, Void nothing) {
        need(false, 6, tree, "assert");
        return super.visitAssert(tree, nothing);
    }

    @Override
    public Void visitForLoop(ForLoopTree tree, Void nothing) {
        need(tree.getCondition() != null && !isTrue(tree.getCondition()) && !tree.getUpdate().isEmpty(), 9, tree,
                "a loop without an end to be seen");
        return super.visitForLoop(tree, nothing);
    }

    @Override
    public Void visitWhileLoop(WhileLoopTree tree, Void nothing) {
        need(!isTrue(tree.getCondition()), 9, tree, "a loop without an end to be seen");
        return super.visitWhileLoop(tree, nothing);
    }

    @Override
    public Void visitDoWhileLoop(DoWhileLoopTree tree, Void nothing) {
        need(!isTrue(tree.getCondition()), 9, tree, "a loop without an end to be seen");
        return super.visitDoWhileLoop(tree, nothing);
    }

    private static boolean isTrue(ExpressionTree condition) {
        ExpressionTree inner = condition;
        while (inner instanceof ParenthesizedTree p) {
            inner = p.getExpression();
        }
        return inner instanceof LiteralTree literal && Boolean.TRUE.equals(literal.getValue());
    }

    @Override
    public Void visitEnhancedForLoop(EnhancedForLoopTree tree, Void nothing) {
        need(typeOf(tree.getExpression()).getKind() == TypeKind.ARRAY, 12, tree, "a list's iterator is made");
        return super.visitEnhancedForLoop(tree, nothing);
    }
}
