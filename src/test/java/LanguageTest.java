import com.sun.source.tree.*;
import com.sun.source.util.JavacTask;
import com.sun.source.util.TreeScanner;
import java.io.IOException;
import java.io.StringWriter;
import java.nio.file.Path;
import java.util.HashMap;
import java.util.HashSet;
import java.util.Map;
import java.util.Set;
import java.util.TreeSet;
import javax.lang.model.element.Modifier;
import javax.tools.JavaCompiler;
import javax.tools.StandardJavaFileManager;
import javax.tools.ToolProvider;

/**
 * What of ../shared/LANGUAGE.md can be seen in the source alone; the rule's number stands in each complaint.
 * It complains of nothing that the rules leave, so where a rule says 'some', there is room.
 */
public final class LanguageTest extends TreeScanner<Void, Void> {
    private static final Path SOURCE = Path.of("src/main/java/FortranStatic.java");
    private static final int MAX_LINES = 70;
    /** Methods on a chain: the one that is called from outside, and six calls below it. */
    private static final int MAX_CHAIN = 7;
    private static final int MAX_FIELDS = 45;
    private static final Set<Tree.Kind> BANNED = Set.of(
        Tree.Kind.IMPORT, Tree.Kind.PACKAGE, Tree.Kind.INTERFACE, Tree.Kind.ENUM, Tree.Kind.RECORD,
        Tree.Kind.THROW, Tree.Kind.TRY, Tree.Kind.CATCH, Tree.Kind.SYNCHRONIZED, Tree.Kind.ASSERT,
        Tree.Kind.INSTANCE_OF, Tree.Kind.LAMBDA_EXPRESSION, Tree.Kind.MEMBER_REFERENCE, Tree.Kind.NEW_CLASS,
        Tree.Kind.NULL_LITERAL, Tree.Kind.STRING_LITERAL, Tree.Kind.FLOAT_LITERAL, Tree.Kind.DOUBLE_LITERAL,
        Tree.Kind.PARAMETERIZED_TYPE, Tree.Kind.ANNOTATION);

    private static final Set<Tree.Kind> NESTING = Set.of(
        Tree.Kind.FOR_LOOP, Tree.Kind.ENHANCED_FOR_LOOP, Tree.Kind.WHILE_LOOP, Tree.Kind.DO_WHILE_LOOP,
        Tree.Kind.IF, Tree.Kind.SWITCH, Tree.Kind.CONDITIONAL_EXPRESSION);

    private final Check check = new Check();
    private final Map<String, Set<String>> callsOf = new HashMap<>();
    private final Set<String> publicMethods = new HashSet<>();
    private final Set<String> privateMethods = new HashSet<>();
    private final Set<String> arrayFields = new HashSet<>();
    private final Set<String> constants = new HashSet<>();
    private String method = "";
    private boolean inField = false;
    private int fields = 0;
    private int classes = 0;
    private int openCalls = 0;
    /** How many loops and conditions are open where the scan is. */
    private int nested = 0;

    public static void main(String[] args) throws IOException {
        LanguageTest test = new LanguageTest();
        JavaCompiler compiler = ToolProvider.getSystemJavaCompiler();
        try (StandardJavaFileManager files = compiler.getStandardFileManager(null, null, null)) {
            JavacTask task = (JavacTask) compiler.getTask(new StringWriter(), files, null, null, null,
                files.getJavaFileObjects(SOURCE));
            for (CompilationUnitTree unit : task.parse()) {
                test.scan(unit, null);
            }
        }
        test.check.due("rule 1: classes", test.classes, 1);
        test.check.due("rule 10: fields are few", test.fields <= MAX_FIELDS, true);
        for (String name : test.callsOf.keySet()) {
            test.allow(!(test.publicMethods.contains(name) && test.privateMethods.contains(name)), "1", name);
            for (String callee : test.callsOf.get(name)) {
                test.allow(test.callsOf.containsKey(callee) || callee.equals("super"), "3, no method of the class", callee);
            }
            test.walkCalls(name, new TreeSet<>());
        }
        test.check.end();
    }

    private void allow(boolean allowed, String rule, Object tree) {
        check.due("rule " + rule + " in " + method + ": " + tree, allowed, true);
    }

    /** Walks all chains of calls; a method met again on its own chain is recursion. */
    private void walkCalls(String name, Set<String> chain) {
        allow(!chain.contains(name), "8, recursion", name);
        if (!chain.add(name)) {
            return;
        }
        allow(chain.size() <= MAX_CHAIN, "10, depth", chain);
        for (String callee : callsOf.getOrDefault(name, Set.of())) {
            walkCalls(callee, chain);
        }
        chain.remove(name);
    }

    @Override
    public Void scan(Tree tree, Void none) {
        if (tree == null) {
            return null;
        }
        allow(!BANNED.contains(tree.getKind()), "2, 3 or 6", tree);
        int step = NESTING.contains(tree.getKind()) ? 1 : 0;
        nested += step;
        super.scan(tree, none);
        nested -= step;
        return null;
    }

    @Override
    public Void visitClass(ClassTree tree, Void none) {
        classes++;
        for (Tree member : tree.getMembers()) {
            if (member instanceof VariableTree) {
                nameField((VariableTree) member);
            }
        }
        for (Tree member : tree.getMembers()) {
            inField = member instanceof VariableTree;
            if (member instanceof VariableTree) {
                visitField((VariableTree) member);
            }
            allow(!(member instanceof BlockTree), "5, initialiser", member);
            scan(member, none);
        }
        return null;
    }

    private void nameField(VariableTree field) {
        String name = field.getName().toString();
        if (field.getType() instanceof ArrayTypeTree) {
            arrayFields.add(name);
        } else if (field.getModifiers().getFlags().contains(Modifier.STATIC)) {
            constants.add(name);
        }
    }

    private void visitField(VariableTree field) {
        Set<Modifier> flags = field.getModifiers().getFlags();
        if (flags.contains(Modifier.STATIC)) {
            String type = field.getType().toString();
            boolean isNumber = type.equals("int") || type.equals("long");
            allow(flags.contains(Modifier.FINAL) && isNumber && field.getInitializer() != null, "5", field);
        } else {
            fields++;
            allow(flags.contains(Modifier.PRIVATE), "1", field);
        }
    }

    @Override
    public Void visitMethod(MethodTree tree, Void none) {
        method = tree.getName().toString();
        inField = false;
        boolean isPrivate = tree.getModifiers().getFlags().contains(Modifier.PRIVATE);
        (isPrivate ? privateMethods : publicMethods).add(method);
        allow(tree.getParameters().size() <= 7, "10, parameters", method);
        allow(!(tree.getReturnType() instanceof ArrayTypeTree), "4, answers an array", method);
        allow(tree.toString().lines().count() <= MAX_LINES, "10, lines", method);
        callsOf.putIfAbsent(method, new TreeSet<>());
        return super.visitMethod(tree, none);
    }

    @Override
    public Void visitVariable(VariableTree tree, Void none) {
        Tree type = tree.getType();
        Tree single = type instanceof ArrayTypeTree ? ((ArrayTypeTree) type).getType() : type;
        allow(single instanceof PrimitiveTypeTree, "2", tree);
        return super.visitVariable(tree, none);
    }

    @Override
    public Void visitPrimitiveType(PrimitiveTypeTree tree, Void none) {
        String name = tree.toString();
        allow(!name.equals("float") && !name.equals("double"), "2", tree);
        return null;
    }

    @Override
    public Void visitNewArray(NewArrayTree tree, Void none) {
        boolean atStart = inField || method.equals("<init>");
        allow(atStart && nested == 0 && tree.getDimensions().size() == 1 && tree.getInitializers() == null, "4", tree);
        for (ExpressionTree length : tree.getDimensions()) {
            allow(isConstant(length), "4, length", tree);
        }
        return super.visitNewArray(tree, none);
    }

    private boolean isConstant(ExpressionTree length) {
        if (length instanceof BinaryTree) {
            return isConstant(((BinaryTree) length).getLeftOperand()) && isConstant(((BinaryTree) length).getRightOperand());
        }
        return length instanceof LiteralTree || constants.contains(length.toString().replace("FortranStatic.", ""));
    }

    @Override
    public Void visitAssignment(AssignmentTree tree, Void none) {
        String target = tree.getVariable().toString().replace("this.", "");
        allow(method.equals("<init>") || !arrayFields.contains(target), "4, an array field is assigned to", tree);
        return super.visitAssignment(tree, none);
    }

    @Override
    public Void visitTypeCast(TypeCastTree tree, Void none) {
        allow(tree.getType() instanceof PrimitiveTypeTree, "6, cast", tree);
        return super.visitTypeCast(tree, none);
    }

    @Override
    public Void visitMemberSelect(MemberSelectTree tree, Void none) {
        String whole = tree.getExpression().toString();
        boolean own = whole.equals("this") || whole.equals("FortranStatic");
        allow(own || tree.getIdentifier().contentEquals("length"), "3", tree);
        return super.visitMemberSelect(tree, none);
    }

    @Override
    public Void visitMethodInvocation(MethodInvocationTree tree, Void none) {
        callsOf.get(method).add(tree.getMethodSelect().toString().replace("this.", "").replace("FortranStatic.", ""));
        allow(openCalls == 0, "10, a call in an argument", tree);
        openCalls++;
        super.visitMethodInvocation(tree, none);
        openCalls--;
        return null;
    }

    private void allowCondition(ExpressionTree condition, Tree loop) {
        allow(condition != null && !condition.toString().matches("\\(*true\\)*"), "8, a loop without an end", loop);
    }

    @Override
    public Void visitWhileLoop(WhileLoopTree tree, Void none) {
        allowCondition(tree.getCondition(), tree);
        return super.visitWhileLoop(tree, none);
    }

    @Override
    public Void visitDoWhileLoop(DoWhileLoopTree tree, Void none) {
        allowCondition(tree.getCondition(), tree);
        return super.visitDoWhileLoop(tree, none);
    }

    @Override
    public Void visitForLoop(ForLoopTree tree, Void none) {
        allowCondition(tree.getCondition(), tree);
        return super.visitForLoop(tree, none);
    }
}
