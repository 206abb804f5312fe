import com.sun.source.tree.ArrayTypeTree;
import com.sun.source.tree.AssertTree;
import com.sun.source.tree.ClassTree;
import com.sun.source.tree.CompilationUnitTree;
import com.sun.source.tree.DoWhileLoopTree;
import com.sun.source.tree.EnhancedForLoopTree;
import com.sun.source.tree.ExpressionTree;
import com.sun.source.tree.ForLoopTree;
import com.sun.source.tree.IdentifierTree;
import com.sun.source.tree.ImportTree;
import com.sun.source.tree.InstanceOfTree;
import com.sun.source.tree.LambdaExpressionTree;
import com.sun.source.tree.LiteralTree;
import com.sun.source.tree.MemberReferenceTree;
import com.sun.source.tree.MemberSelectTree;
import com.sun.source.tree.MethodInvocationTree;
import com.sun.source.tree.MethodTree;
import com.sun.source.tree.NewArrayTree;
import com.sun.source.tree.NewClassTree;
import com.sun.source.tree.PrimitiveTypeTree;
import com.sun.source.tree.SynchronizedTree;
import com.sun.source.tree.ThrowTree;
import com.sun.source.tree.Tree;
import com.sun.source.tree.TryTree;
import com.sun.source.tree.TypeCastTree;
import com.sun.source.tree.VariableTree;
import com.sun.source.tree.WhileLoopTree;
import com.sun.source.util.JavacTask;
import com.sun.source.util.SourcePositions;
import com.sun.source.util.TreeScanner;
import com.sun.source.util.Trees;
import java.io.File;
import java.io.IOException;
import java.util.HashMap;
import java.util.HashSet;
import java.util.List;
import java.util.Map;
import java.util.Set;
import java.util.TreeMap;
import java.util.TreeSet;
import javax.lang.model.element.Modifier;
import javax.lang.model.type.TypeKind;
import javax.tools.JavaCompiler;
import javax.tools.StandardJavaFileManager;
import javax.tools.ToolProvider;

/** Holds src/main/java/CallDesk.java against the rules of LANGUAGE.md that can be told from its text. */
public final class LanguageTest extends TreeScanner<Void, Void> {
    private static final Set<String> FACE = Set.of("<init>", "field", "feed", "grant", "answer", "finish", "cancel",
            "state", "code", "window", "header", "table", "messages", "nodes", "typeOf", "many", "value", "byteOf",
            "skipped", "size", "out", "drain");
    private static final Set<String> CONSTANTS = Set.of("BAD", "DOWN", "FULL");

    private final CompilationUnitTree unit;
    private final SourcePositions positions;
    private final Map<String, Set<String>> calls = new TreeMap<>();
    private final Set<String> publicMethods = new TreeSet<>();
    private final Set<String> privateMethods = new TreeSet<>();
    private final Set<String> publicConstants = new TreeSet<>();
    private final Set<String> allConstants = new HashSet<>();
    private String method;
    private int classes;
    private int fields;
    private int callsAbove;

    private LanguageTest(CompilationUnitTree unit, SourcePositions positions) {
        this.unit = unit;
        this.positions = positions;
    }

    public static void main(String[] args) throws IOException {
        JavaCompiler compiler = ToolProvider.getSystemJavaCompiler();
        try (StandardJavaFileManager files = compiler.getStandardFileManager(null, null, null)) {
            JavacTask task = (JavacTask) compiler.getTask(null, files, null, List.of("-proc:none"), null,
                    files.getJavaFileObjects(new File("src/main/java/CallDesk.java")));
            for (CompilationUnitTree unit : task.parse()) {
                new LanguageTest(unit, Trees.instance(task).getSourcePositions()).judge();
            }
        }
        Check.end();
    }

    private void judge() {
        scan(unit, null);
        expect(unit.getPackageName() == null, 1, unit, "a package line");
        expect(classes == 1, 1, unit, "more than one class");
        expect(publicMethods.equals(FACE), 1, unit, "the public methods are not those of the document");
        expect(publicConstants.equals(CONSTANTS), 1, unit, "the public constants are not those of the document");
        for (String name : privateMethods) {
            expect(!publicMethods.contains(name), 1, unit, "a private method with a public name: " + name);
        }
        expect(fields <= 40, 10, unit, fields + " fields");
        for (String name : calls.keySet()) {
            int depth = depth(name, new HashSet<>(), new HashMap<>());
            expect(depth <= 6, 10, unit, "calls of " + name + " go " + depth + " deep");
        }
    }

    /** How many methods stand in the longest chain of calls, this one counted. */
    private int depth(String name, Set<String> above, Map<String, Integer> known) {
        if (known.containsKey(name)) {
            return known.get(name);
        }
        if (!above.add(name)) {
            Check.told("rule 8: recursion through " + name);
            return 0;
        }
        int deepest = 0;
        for (String called : calls.getOrDefault(name, Set.of())) {
            deepest = Math.max(deepest, depth(called, above, known));
        }
        above.remove(name);
        known.put(name, deepest + 1);
        return deepest + 1;
    }

    private long line(Tree tree) {
        return unit.getLineMap().getLineNumber(Math.max(0, positions.getStartPosition(unit, tree)));
    }

    private void expect(boolean good, int rule, Tree tree, String fault) {
        if (!good) {
            Check.told("rule " + rule + ", line " + line(tree) + ": " + fault);
        }
    }

    private void never(int rule, Tree tree) {
        expect(false, rule, tree, tree.getKind().toString());
    }

    @Override
    public Void visitClass(ClassTree tree, Void none) {
        classes++;
        Set<Modifier> modifiers = tree.getModifiers().getFlags();
        expect(modifiers.equals(Set.of(Modifier.PUBLIC, Modifier.FINAL)), 1, tree, "not public and final");
        expect(tree.getExtendsClause() == null && tree.getImplementsClause().isEmpty(), 1, tree, "a supertype");
        for (Tree member : tree.getMembers()) {
            if (member instanceof VariableTree) {
                judgeField((VariableTree) member);
            } else {
                expect(member instanceof MethodTree, 1, member, "neither a field nor a method");
            }
        }
        return super.visitClass(tree, none);
    }

    private void judgeField(VariableTree field) {
        Set<Modifier> modifiers = field.getModifiers().getFlags();
        String name = field.getName().toString();
        if (modifiers.contains(Modifier.STATIC)) {
            String type = field.getType().toString();
            expect(modifiers.contains(Modifier.FINAL), 5, field, "a static field that is not final");
            expect(type.equals("int") || type.equals("long"), 5, field, "a static field of " + type);
            allConstants.add(name);
        } else {
            fields++;
        }
        if (modifiers.contains(Modifier.PUBLIC)) {
            publicConstants.add(name);
        } else {
            expect(modifiers.contains(Modifier.PRIVATE), 1, field, "a field that is not private");
        }
    }

    @Override
    public Void visitMethod(MethodTree tree, Void none) {
        method = tree.getName().toString();
        boolean open = tree.getModifiers().getFlags().contains(Modifier.PUBLIC);
        boolean hidden = tree.getModifiers().getFlags().contains(Modifier.PRIVATE);
        expect(open || hidden, 1, tree, "a method that is neither public nor private");
        expect((open ? publicMethods : privateMethods).add(method), 1, tree, "two methods named " + method);
        expect(tree.getParameters().size() <= 7, 10, tree, "more than seven parameters");
        long end = unit.getLineMap().getLineNumber(positions.getEndPosition(unit, tree));
        expect(end - line(tree) < 60, 10, tree, "a method of more than sixty lines");
        expect(tree.getThrows().isEmpty(), 6, tree, "throws");
        expect(!(tree.getReturnType() instanceof ArrayTypeTree), 4, tree, "an array is answered");
        super.visitMethod(tree, none);
        method = null;
        return null;
    }

    @Override
    public Void visitMethodInvocation(MethodInvocationTree tree, Void none) {
        String called = tree.getMethodSelect().toString();
        // The constructor that stands in no line calls Object's, which is not ours.
        if (!called.equals("super")) {
            calls.computeIfAbsent(method, k -> new TreeSet<>()).add(called);
            expect(callsAbove == 0, 10, tree, "a call inside the arguments of another");
        }
        callsAbove++;
        scan(tree.getArguments(), none);
        callsAbove--;
        return null;
    }

    @Override
    public Void visitNewArray(NewArrayTree tree, Void none) {
        expect(method == null, 4, tree, "an array made in a method");
        expect(tree.getDimensions().size() == 1 && tree.getInitializers() == null, 4, tree, "an array of another form");
        for (ExpressionTree length : tree.getDimensions()) {
            boolean constant = length instanceof IdentifierTree && allConstants.contains(length.toString());
            expect(constant || length instanceof LiteralTree, 4, tree, "a length that is no constant");
        }
        return super.visitNewArray(tree, none);
    }

    @Override
    public Void visitArrayType(ArrayTypeTree tree, Void none) {
        expect(tree.getType() instanceof PrimitiveTypeTree, 2, tree, "an array of arrays or objects");
        return super.visitArrayType(tree, none);
    }

    @Override
    public Void visitPrimitiveType(PrimitiveTypeTree tree, Void none) {
        TypeKind kind = tree.getPrimitiveTypeKind();
        expect(kind != TypeKind.FLOAT && kind != TypeKind.DOUBLE, 2, tree, "float or double");
        return super.visitPrimitiveType(tree, none);
    }

    @Override
    public Void visitVariable(VariableTree tree, Void none) {
        Tree type = tree.getType();
        expect(type instanceof PrimitiveTypeTree || type instanceof ArrayTypeTree, 2, tree, "an object");
        return super.visitVariable(tree, none);
    }

    @Override
    public Void visitLiteral(LiteralTree tree, Void none) {
        Object value = tree.getValue();
        expect(value != null && !(value instanceof String), 2, tree, "null or a String");
        return super.visitLiteral(tree, none);
    }

    @Override
    public Void visitTypeCast(TypeCastTree tree, Void none) {
        expect(tree.getType() instanceof PrimitiveTypeTree, 6, tree, "a cast of a reference");
        return super.visitTypeCast(tree, none);
    }

    @Override
    public Void visitForLoop(ForLoopTree tree, Void none) {
        boolean counted = tree.getInitializer().size() == 1 && tree.getUpdate().size() == 1;
        expect(counted && tree.getCondition() != null, 8, tree, "a loop without a counter and a bound");
        return super.visitForLoop(tree, none);
    }

    @Override
    public Void visitWhileLoop(WhileLoopTree tree, Void none) {
        never(8, tree);
        return null;
    }

    @Override
    public Void visitDoWhileLoop(DoWhileLoopTree tree, Void none) {
        never(8, tree);
        return null;
    }

    @Override
    public Void visitEnhancedForLoop(EnhancedForLoopTree tree, Void none) {
        never(3, tree);
        return null;
    }

    @Override
    public Void visitImport(ImportTree tree, Void none) {
        never(3, tree);
        return null;
    }

    @Override
    public Void visitMemberSelect(MemberSelectTree tree, Void none) {
        never(3, tree);
        return null;
    }

    @Override
    public Void visitNewClass(NewClassTree tree, Void none) {
        never(2, tree);
        return null;
    }

    @Override
    public Void visitThrow(ThrowTree tree, Void none) {
        never(6, tree);
        return null;
    }

    @Override
    public Void visitTry(TryTree tree, Void none) {
        never(6, tree);
        return null;
    }

    @Override
    public Void visitSynchronized(SynchronizedTree tree, Void none) {
        never(6, tree);
        return null;
    }

    @Override
    public Void visitAssert(AssertTree tree, Void none) {
        never(6, tree);
        return null;
    }

    @Override
    public Void visitInstanceOf(InstanceOfTree tree, Void none) {
        never(6, tree);
        return null;
    }

    @Override
    public Void visitLambdaExpression(LambdaExpressionTree tree, Void none) {
        never(6, tree);
        return null;
    }

    @Override
    public Void visitMemberReference(MemberReferenceTree tree, Void none) {
        never(6, tree);
        return null;
    }
}
