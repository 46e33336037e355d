import com.sun.source.tree.AssertTree;
import com.sun.source.tree.AssignmentTree;
import com.sun.source.tree.ArrayAccessTree;
import com.sun.source.tree.BinaryTree;
import com.sun.source.tree.BlockTree;
import com.sun.source.tree.CatchTree;
import com.sun.source.tree.ClassTree;
import com.sun.source.tree.CompilationUnitTree;
import com.sun.source.tree.CompoundAssignmentTree;
import com.sun.source.tree.DoWhileLoopTree;
import com.sun.source.tree.ExpressionTree;
import com.sun.source.tree.ForLoopTree;
import com.sun.source.tree.ImportTree;
import com.sun.source.tree.InstanceOfTree;
import com.sun.source.tree.LambdaExpressionTree;
import com.sun.source.tree.LiteralTree;
import com.sun.source.tree.MemberReferenceTree;
import com.sun.source.tree.MethodInvocationTree;
import com.sun.source.tree.MethodTree;
import com.sun.source.tree.NewArrayTree;
import com.sun.source.tree.NewClassTree;
import com.sun.source.tree.ParenthesizedTree;
import com.sun.source.tree.SwitchTree;
import com.sun.source.tree.SynchronizedTree;
import com.sun.source.tree.ThrowTree;
import com.sun.source.tree.Tree;
import com.sun.source.tree.TryTree;
import com.sun.source.tree.TypeCastTree;
import com.sun.source.tree.UnaryTree;
import com.sun.source.tree.VariableTree;
import com.sun.source.tree.WhileLoopTree;
import com.sun.source.util.JavacTask;
import com.sun.source.util.TreePath;
import com.sun.source.util.TreePathScanner;
import com.sun.source.util.Trees;
import java.io.IOException;
import java.net.URI;
import java.util.ArrayList;
import java.util.HashMap;
import java.util.HashSet;
import java.util.LinkedHashMap;
import java.util.List;
import java.util.Map;
import java.util.Set;
import java.util.TreeSet;
import javax.lang.model.element.Element;
import javax.lang.model.element.ElementKind;
import javax.lang.model.element.ExecutableElement;
import javax.lang.model.element.Modifier;
import javax.lang.model.element.TypeElement;
import javax.lang.model.type.ArrayType;
import javax.lang.model.type.TypeKind;
import javax.lang.model.type.TypeMirror;
import javax.tools.JavaFileObject;
import javax.tools.SimpleJavaFileObject;
import javax.tools.ToolProvider;

/** Reads a source by the compiler's own tree and tells which rules of LANGUAGE.md it breaks, and where. */
final class Language extends TreePathScanner<Void, Void> {
    private static final String OWN = "InnChanged";
    private static final Set<String> IMPORTS = Set.of("java.util.Arrays", "java.util.ArrayList", "java.util.List",
            "java.util.Iterator");
    private static final Set<String> LIBRARY_TYPES = Set.of("java.lang.String", "java.lang.StringBuilder",
            "java.lang.Integer", "java.util.ArrayList", "java.util.List");
    private static final Map<String, Set<String>> LIBRARY = Map.of(
            "java.lang.String", Set.of("length", "charAt", "isEmpty", "equals", "indexOf", "substring", "toCharArray"),
            "java.lang.StringBuilder", Set.of("append", "charAt", "setCharAt", "setLength", "deleteCharAt", "reverse",
                    "length", "toString"),
            "java.util.ArrayList", Set.of("add", "get", "set", "remove", "size", "isEmpty", "clear"),
            "java.util.List", Set.of("add", "get", "set", "remove", "size", "isEmpty", "clear", "of"),
            "java.lang.Math", Set.of("max", "min", "abs", "floorDiv", "floorMod"),
            "java.lang.Integer", Set.of("compare", "max", "min", "bitCount", "intValue", "valueOf"),
            "java.lang.Long", Set.of("compare", "max", "min", "bitCount"),
            "java.lang.System", Set.of("arraycopy"),
            "java.util.Arrays", Set.of("copyOf", "copyOfRange", "fill"));

    private final List<String> broken = new ArrayList<>();
    private final Trees trees;
    private final CompilationUnitTree unit;
    private final Map<String, Set<String>> calls = new LinkedHashMap<>();
    private final Set<String> open = new HashSet<>();
    private final Map<String, Integer> fields = new HashMap<>();
    private final Set<String> face = new HashSet<>();
    private int classes;

    private Language(Trees trees, CompilationUnitTree unit) {
        this.trees = trees;
        this.unit = unit;
    }

    /** Each as 'rule number, line: what'; none: the source keeps to all that is looked at here. */
    static List<String> brokenBy(String source) throws IOException {
        JavaFileObject file = new SimpleJavaFileObject(URI.create("string:///" + OWN + ".java"),
                JavaFileObject.Kind.SOURCE) {
            @Override
            public CharSequence getCharContent(boolean ignored) {
                return source;
            }
        };
        List<String> faults = new ArrayList<>();
        JavacTask task = (JavacTask) ToolProvider.getSystemJavaCompiler().getTask(null, null,
                d -> faults.add("0, " + d.getLineNumber() + ": " + d.getMessage(null)), List.of("-proc:none"), null,
                List.of(file));
        Iterable<? extends CompilationUnitTree> units = task.parse();
        task.analyze();
        for (CompilationUnitTree unit : units) {
            Language reader = new Language(Trees.instance(task), unit);
            reader.noteFace();
            reader.scan(unit, null);
            reader.lookAtAll(source);
            faults.addAll(reader.broken);
        }
        return faults;
    }

    private void breaks(int rule, Tree at, String what) {
        long place = trees.getSourcePositions().getStartPosition(unit, at);
        long line = place < 0 ? 0 : unit.getLineMap().getLineNumber(place);
        broken.add(rule + ", " + line + ": " + what);
    }

    private void noteFace() {
        for (Tree type : unit.getTypeDecls()) {
            for (Tree member : ((ClassTree) type).getMembers()) {
                boolean method = member instanceof MethodTree m && m.getReturnType() != null;
                if (method && ((MethodTree) member).getModifiers().getFlags().contains(Modifier.PUBLIC)) {
                    face.add(((MethodTree) member).getName().toString());
                }
            }
        }
    }

    private Element here() {
        return trees.getElement(getCurrentPath());
    }

    private TypeMirror typeOf(Tree tree) {
        return trees.getTypeMirror(new TreePath(getCurrentPath(), tree));
    }

    // ---- the whole file

    private void lookAtAll(String source) {
        if (unit.getPackageName() != null) {
            breaks(1, unit, "a package line");
        }
        if (unit.getTypeDecls().size() != 1) {
            breaks(1, unit, "one class alone stands outside others");
        }
        for (ImportTree i : unit.getImports()) {
            if (i.isStatic() || !IMPORTS.contains(i.getQualifiedIdentifier().toString())) {
                breaks(4, i, "imports " + i.getQualifiedIdentifier());
            }
        }
        if (!source.chars().allMatch(c -> c < 128)) {
            breaks(4, unit, "a sign above 127");
        }
        if (classes > 12) {
            breaks(11, unit, classes + " classes");
        }
        fields.forEach((name, many) -> {
            if (many > 20) {
                breaks(11, unit, name + " has " + many + " fields");
            }
        });
        for (String method : calls.keySet()) {
            if (reaches(method, method, new HashSet<>()) && !open.contains(method)) {
                breaks(8, unit, method + " calls itself, and is not private with a number for its depth");
            }
        }
        int deepest = 0;
        for (String method : calls.keySet()) {
            deepest = Math.max(deepest, depth(method, new HashSet<>()));
        }
        if (deepest > 8) {
            breaks(11, unit, "calls go " + deepest + " deep");
        }
    }

    private boolean reaches(String from, String sought, Set<String> gone) {
        for (String next : calls.getOrDefault(from, Set.of())) {
            if (next.equals(sought) || gone.add(next) && reaches(next, sought, gone)) {
                return true;
            }
        }
        return false;
    }

    private int depth(String method, Set<String> above) {
        int most = 0;
        if (above.add(method)) {
            for (String next : calls.getOrDefault(method, Set.of())) {
                most = Math.max(most, above.contains(next) ? 0 : depth(next, above));
            }
            above.remove(method);
        }
        return most + 1;
    }

    // ---- classes, methods, fields

    @Override
    public Void visitClass(ClassTree tree, Void v) {
        classes++;
        Element e = here();
        Tree around = getCurrentPath().getParentPath().getLeaf();
        if (around instanceof ClassTree) {
            Set<Modifier> flags = e.getModifiers();
            if (flags.contains(Modifier.PUBLIC) || flags.contains(Modifier.PROTECTED)) {
                breaks(1, tree, e + " is neither private nor package-visible");
            }
            if (!flags.contains(Modifier.STATIC)) {
                breaks(2, tree, e + " is not static");
            }
        } else if (around instanceof CompilationUnitTree) {
            if (!e.getModifiers().containsAll(Set.of(Modifier.PUBLIC, Modifier.FINAL))) {
                breaks(1, tree, e + " is not public and final");
            }
        } else {
            breaks(2, tree, "a local class, or one without a name");
        }
        return super.visitClass(tree, v);
    }

    @Override
    public Void visitMethod(MethodTree tree, Void v) {
        ExecutableElement e = (ExecutableElement) here();
        String name = e.getEnclosingElement() + "." + tree.getName();
        calls.computeIfAbsent(name, k -> new TreeSet<>());
        boolean hidden = e.getModifiers().contains(Modifier.PRIVATE);
        if (hidden && face.contains(tree.getName().toString())) {
            breaks(1, tree, name + " is private and bears a name of the face");
        }
        boolean outer = e.getEnclosingElement().toString().equals(OWN);
        if (outer && !hidden && !e.getModifiers().contains(Modifier.PUBLIC)) {
            breaks(1, tree, name + " is neither public nor private");
        }
        if (Set.of("equals", "hashCode", "toString").contains(tree.getName().toString())) {
            breaks(6, tree, name);
        }
        boolean number = tree.getParameters().stream().anyMatch(p -> p.getType().toString().equals("int"));
        if (hidden && number) {
            open.add(name);
        }
        if (tree.getParameters().size() > 7) {
            breaks(11, tree, name + " takes " + tree.getParameters().size());
        }
        if (!tree.getThrows().isEmpty()) {
            breaks(6, tree, name + " tells what it throws");
        }
        long from = trees.getSourcePositions().getStartPosition(unit, tree);
        long to = trees.getSourcePositions().getEndPosition(unit, tree);
        if (from >= 0 && to >= 0) {
            long lines = unit.getLineMap().getLineNumber(to) - unit.getLineMap().getLineNumber(from) + 1;
            if (lines > 60) {
                breaks(11, tree, name + " has " + lines + " lines");
            }
        }
        return super.visitMethod(tree, v);
    }

    @Override
    public Void visitVariable(VariableTree tree, Void v) {
        Element e = here();
        if (e != null && !isAllowed(e.asType(), 0)) {
            breaks(3, tree, tree.getName() + " is " + e.asType());
        }
        if (e != null && e.getKind() == ElementKind.FIELD) {
            lookAtField(tree, e);
        }
        return super.visitVariable(tree, v);
    }

    private void lookAtField(VariableTree tree, Element e) {
        Set<Modifier> flags = e.getModifiers();
        if (!flags.contains(Modifier.STATIC)) {
            fields.merge(e.getEnclosingElement().toString(), 1, Integer::sum);
        } else if (!flags.contains(Modifier.FINAL)) {
            breaks(5, tree, tree.getName() + " is static and not final");
        } else if (!isConstant(e.asType(), tree.getInitializer())) {
            breaks(5, tree, tree.getName() + " is no constant");
        }
        boolean shown = !flags.contains(Modifier.PRIVATE) && e.getEnclosingElement().toString().equals(OWN);
        if (shown && !flags.containsAll(Set.of(Modifier.PUBLIC, Modifier.STATIC, Modifier.FINAL))) {
            breaks(1, tree, tree.getName() + " is seen from outside");
        }
    }

    private static boolean isConstant(TypeMirror type, ExpressionTree value) {
        if (type instanceof ArrayType row) {
            return value instanceof NewArrayTree made && made.getInitializers() != null
                    && Set.of(TypeKind.INT, TypeKind.LONG, TypeKind.CHAR, TypeKind.BYTE)
                            .contains(row.getComponentType().getKind());
        }
        return Set.of("int", "long", "boolean", "char", "java.lang.String").contains(type.toString());
    }

    private static boolean isAllowed(TypeMirror type, int dimensions) {
        if (type.getKind().isPrimitive()) {
            return dimensions <= 2;
        }
        if (type instanceof ArrayType row) {
            return isAllowed(row.getComponentType(), dimensions + 1);
        }
        String name = type.toString().replaceAll("<.*", "");
        boolean own = name.equals(OWN) || name.startsWith(OWN + ".");
        return own ? dimensions <= 1 : dimensions == 0 && LIBRARY_TYPES.contains(name);
    }

    // ---- calls and what is made

    private MethodTree methodAround() {
        for (TreePath p = getCurrentPath(); p != null; p = p.getParentPath()) {
            if (p.getLeaf() instanceof MethodTree m) {
                return m;
            }
        }
        return null;
    }

    private boolean isInConstructor() {
        MethodTree m = methodAround();
        return m != null && m.getReturnType() == null;
    }

    @Override
    public Void visitMethodInvocation(MethodInvocationTree tree, Void v) {
        if (here() instanceof ExecutableElement e && e.getKind() == ElementKind.METHOD) {
            String owner = e.getEnclosingElement().toString().replaceAll("<.*", "");
            String name = e.getSimpleName().toString();
            if (owner.equals(OWN) || owner.startsWith(OWN + ".")) {
                noteCall(tree, e, owner + "." + name);
            } else if (!LIBRARY.getOrDefault(owner, Set.of()).contains(name)
                    && !(owner.equals("Array") && name.equals("clone"))) {
                breaks(4, tree, "calls " + owner + "." + name);
            }
        }
        return super.visitMethodInvocation(tree, v);
    }

    private void noteCall(Tree tree, ExecutableElement called, String name) {
        MethodTree m = methodAround();
        if (m == null) {
            return;
        }
        Element caller = trees.getElement(trees.getPath(unit, m));
        calls.computeIfAbsent(caller.getEnclosingElement() + "." + m.getName(), k -> new TreeSet<>()).add(name);
        Set<Modifier> fixed = Set.of(Modifier.PRIVATE, Modifier.STATIC, Modifier.FINAL);
        boolean ends = called.getModifiers().stream().anyMatch(fixed::contains)
                || ((TypeElement) called.getEnclosingElement()).getModifiers().contains(Modifier.FINAL);
        if (isInConstructor() && !ends) {
            breaks(12, tree, "a constructor calls " + name);
        }
    }

    @Override
    public Void visitNewClass(NewClassTree tree, Void v) {
        if (tree.getClassBody() != null) {
            breaks(2, tree, "a class without a name");
        }
        if (!isAllowed(typeOf(tree), 0)) {
            breaks(3, tree, "makes " + typeOf(tree));
        }
        lookAtMaker(tree);
        return super.visitNewClass(tree, v);
    }

    @Override
    public Void visitNewArray(NewArrayTree tree, Void v) {
        lookAtMaker(tree);
        return super.visitNewArray(tree, v);
    }

    /** Sharper than the rule: one room holds all calls of a run, so none of them makes anything. */
    private void lookAtMaker(Tree tree) {
        if (methodAround() != null && !isInConstructor()) {
            breaks(12, tree, methodAround().getName() + " makes an object");
        }
    }

    // ---- statements and expressions

    @Override
    public Void visitLambdaExpression(LambdaExpressionTree tree, Void v) {
        breaks(2, tree, "a lambda");
        return super.visitLambdaExpression(tree, v);
    }

    @Override
    public Void visitMemberReference(MemberReferenceTree tree, Void v) {
        breaks(2, tree, "a method reference");
        return super.visitMemberReference(tree, v);
    }

    @Override
    public Void visitThrow(ThrowTree tree, Void v) {
        breaks(6, tree, "throw");
        return super.visitThrow(tree, v);
    }

    @Override
    public Void visitTry(TryTree tree, Void v) {
        breaks(6, tree, "try");
        return super.visitTry(tree, v);
    }

    @Override
    public Void visitCatch(CatchTree tree, Void v) {
        breaks(6, tree, "catch");
        return super.visitCatch(tree, v);
    }

    @Override
    public Void visitSynchronized(SynchronizedTree tree, Void v) {
        breaks(6, tree, "synchronized");
        return super.visitSynchronized(tree, v);
    }

    @Override
    public Void visitAssert(AssertTree tree, Void v) {
        breaks(6, tree, "assert");
        return super.visitAssert(tree, v);
    }

    @Override
    public Void visitInstanceOf(InstanceOfTree tree, Void v) {
        if (!isAllowed(typeOf(tree.getType()), 0)) {
            breaks(6, tree, "instanceof " + tree.getType());
        }
        return super.visitInstanceOf(tree, v);
    }

    @Override
    public Void visitTypeCast(TypeCastTree tree, Void v) {
        if (!typeOf(tree.getType()).getKind().isPrimitive()) {
            breaks(7, tree, "a cast to " + tree.getType() + ", which no test ahead of it is known to make safe");
        }
        return super.visitTypeCast(tree, v);
    }

    private boolean isText(Tree tree) {
        TypeMirror type = typeOf(tree);
        return type != null && type.toString().equals("java.lang.String");
    }

    @Override
    public Void visitBinary(BinaryTree tree, Void v) {
        boolean left = isText(tree.getLeftOperand());
        boolean right = isText(tree.getRightOperand());
        if (tree.getKind() == Tree.Kind.PLUS && (left || right)) {
            breaks(10, tree, "joins texts by +");
        }
        boolean equal = tree.getKind() == Tree.Kind.EQUAL_TO || tree.getKind() == Tree.Kind.NOT_EQUAL_TO;
        if (equal && left && right) {
            breaks(6, tree, "== between texts");
        }
        return super.visitBinary(tree, v);
    }

    @Override
    public Void visitCompoundAssignment(CompoundAssignmentTree tree, Void v) {
        if (isText(tree.getVariable())) {
            breaks(10, tree, "joins texts by +");
        }
        lookAtChanged(tree, tree.getVariable());
        return super.visitCompoundAssignment(tree, v);
    }

    @Override
    public Void visitAssignment(AssignmentTree tree, Void v) {
        lookAtChanged(tree, tree.getVariable());
        return super.visitAssignment(tree, v);
    }

    @Override
    public Void visitUnary(UnaryTree tree, Void v) {
        if (Set.of(Tree.Kind.PREFIX_INCREMENT, Tree.Kind.PREFIX_DECREMENT, Tree.Kind.POSTFIX_INCREMENT,
                Tree.Kind.POSTFIX_DECREMENT).contains(tree.getKind())) {
            lookAtChanged(tree, tree.getExpression());
        }
        return super.visitUnary(tree, v);
    }

    private void lookAtChanged(Tree at, ExpressionTree changed) {
        if (changed instanceof ArrayAccessTree row) {
            Element e = trees.getElement(new TreePath(getCurrentPath(), row.getExpression()));
            if (e != null && e.getKind() == ElementKind.FIELD && e.getModifiers().contains(Modifier.STATIC)) {
                breaks(5, at, "changes the row " + e);
            }
        }
    }

    @Override
    public Void visitSwitch(SwitchTree tree, Void v) {
        if (isText(tree.getExpression())) {
            breaks(10, tree, "switch on a text");
        }
        return super.visitSwitch(tree, v);
    }

    @Override
    public Void visitBlock(BlockTree tree, Void v) {
        if (tree.isStatic()) {
            breaks(5, tree, "a static initialiser");
        }
        return super.visitBlock(tree, v);
    }

    // ---- loops

    @Override
    public Void visitForLoop(ForLoopTree tree, Void v) {
        lookAtEnd(tree, tree.getCondition());
        return super.visitForLoop(tree, v);
    }

    @Override
    public Void visitWhileLoop(WhileLoopTree tree, Void v) {
        lookAtEnd(tree, tree.getCondition());
        return super.visitWhileLoop(tree, v);
    }

    @Override
    public Void visitDoWhileLoop(DoWhileLoopTree tree, Void v) {
        lookAtEnd(tree, tree.getCondition());
        return super.visitDoWhileLoop(tree, v);
    }

    /** An end that can be seen is a comparison of numbers, alone or as a part of an 'and'. */
    private void lookAtEnd(Tree loop, ExpressionTree condition) {
        if (!isBounded(condition)) {
            breaks(9, loop, "a loop whose end cannot be seen");
        }
    }

    private static boolean isBounded(ExpressionTree condition) {
        if (condition instanceof ParenthesizedTree p) {
            return isBounded(p.getExpression());
        }
        if (condition instanceof BinaryTree b) {
            switch (b.getKind()) {
                case CONDITIONAL_AND:
                    return isBounded(b.getLeftOperand()) || isBounded(b.getRightOperand());
                case LESS_THAN, LESS_THAN_EQUAL, GREATER_THAN, GREATER_THAN_EQUAL:
                    return !(b.getLeftOperand() instanceof LiteralTree);
                default:
                    return false;
            }
        }
        return false;
    }
}
