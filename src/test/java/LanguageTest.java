import com.sun.source.tree.*;
import com.sun.source.util.JavacTask;
import com.sun.source.util.TreeScanner;
import java.io.IOException;
import java.io.StringWriter;
import java.nio.file.Path;
import java.util.HashMap;
import java.util.HashSet;
import java.util.Map;
import java.util.Set;
import java.util.TreeSet;
import javax.lang.model.element.Modifier;
import javax.tools.JavaCompiler;
import javax.tools.StandardJavaFileManager;
import javax.tools.ToolProvider;

/** What of ../shared/LANGUAGE.md can be seen in the source alone; the rule's number stands in each complaint. */
public final class LanguageTest extends TreeScanner<Void, Void> {
    private static final Path SOURCE = Path.of("src/main/java/FortranStatic.java");
    private static final int MAX_LINES = 60;
    private static final int MAX_DEPTH = 6;
    private static final int MAX_FIELDS = 40;
    private static final Set<Tree.Kind> BANNED = Set.of(
        Tree.Kind.IMPORT, Tree.Kind.PACKAGE, Tree.Kind.INTERFACE, Tree.Kind.ENUM, Tree.Kind.RECORD,
        Tree.Kind.THROW, Tree.Kind.TRY, Tree.Kind.CATCH, Tree.Kind.SYNCHRONIZED, Tree.Kind.ASSERT,
        Tree.Kind.INSTANCE_OF, Tree.Kind.LAMBDA_EXPRESSION, Tree.Kind.MEMBER_REFERENCE, Tree.Kind.NEW_CLASS,
        Tree.Kind.NULL_LITERAL, Tree.Kind.STRING_LITERAL, Tree.Kind.FLOAT_LITERAL, Tree.Kind.DOUBLE_LITERAL,
        Tree.Kind.PARAMETERIZED_TYPE, Tree.Kind.ANNOTATION, Tree.Kind.ENHANCED_FOR_LOOP);

    private final Check check = new Check();
    private final Map<String, Set<String>> callsOf = new HashMap<>();
    private final Set<String> publicMethods = new HashSet<>();
    private String method = "";
    private boolean inField = false;
    private int fields = 0;
    private int classes = 0;
    private int openCalls = 0;

    public static void main(String[] args) throws IOException {
        LanguageTest test = new LanguageTest();
        JavaCompiler compiler = ToolProvider.getSystemJavaCompiler();
        try (StandardJavaFileManager files = compiler.getStandardFileManager(null, null, null)) {
            JavacTask task = (JavacTask) compiler.getTask(new StringWriter(), files, null, null, null,
                files.getJavaFileObjects(SOURCE));
            for (CompilationUnitTree unit : task.parse()) {
                test.scan(unit, null);
            }
        }
        test.check.due("rule 1: classes", test.classes, 1);
        test.check.due("rule 10: fields are few", test.fields <= MAX_FIELDS, true);
        for (String name : test.callsOf.keySet()) {
            test.depthFrom(name, new TreeSet<>());
        }
        test.check.end();
    }

    private void allow(boolean allowed, String rule, Object tree) {
        check.due("rule " + rule + " in " + method + ": " + tree, allowed, true);
    }

    /** Walks all chains of calls; a method met again on its own chain is recursion. */
    private int depthFrom(String name, Set<String> chain) {
        allow(!chain.contains(name), "8, recursion", name);
        if (chain.contains(name)) {
            return 0;
        }
        chain.add(name);
        allow(chain.size() <= MAX_DEPTH, "10, depth", chain);
        int depth = 0;
        for (String callee : callsOf.getOrDefault(name, Set.of())) {
            depth = Math.max(depth, depthFrom(callee, chain));
        }
        chain.remove(name);
        return depth + 1;
    }

    @Override
    public Void scan(Tree tree, Void none) {
        if (tree != null) {
            allow(!BANNED.contains(tree.getKind()), "2, 3 or 6", tree);
        }
        return super.scan(tree, none);
    }

    @Override
    public Void visitClass(ClassTree tree, Void none) {
        classes++;
        for (Tree member : tree.getMembers()) {
            inField = member instanceof VariableTree;
            if (member instanceof VariableTree) {
                visitField((VariableTree) member);
            }
            allow(!(member instanceof BlockTree), "5, initialiser", member);
            scan(member, none);
        }
        return null;
    }

    private void visitField(VariableTree field) {
        Set<Modifier> flags = field.getModifiers().getFlags();
        boolean isArray = field.getType() instanceof ArrayTypeTree;
        if (flags.contains(Modifier.STATIC)) {
            allow(flags.contains(Modifier.FINAL) && !isArray, "5", field);
        } else {
            fields++;
            allow(flags.contains(Modifier.PRIVATE), "1", field);
            allow(!isArray || flags.contains(Modifier.FINAL), "4", field);
        }
    }

    @Override
    public Void visitMethod(MethodTree tree, Void none) {
        method = tree.getName().toString();
        inField = false;
        boolean isPrivate = tree.getModifiers().getFlags().contains(Modifier.PRIVATE);
        allow(!callsOf.containsKey(method), "1, a name twice", method);
        allow(isPrivate || publicMethods.add(method), "1", method);
        allow(tree.getParameters().size() <= 7, "10, parameters", method);
        allow(!(tree.getReturnType() instanceof ArrayTypeTree), "4, answers an array", method);
        allow(tree.toString().lines().count() <= MAX_LINES, "10, lines", method);
        callsOf.put(method, new TreeSet<>());
        return super.visitMethod(tree, none);
    }

    @Override
    public Void visitVariable(VariableTree tree, Void none) {
        Tree type = tree.getType();
        Tree single = type instanceof ArrayTypeTree ? ((ArrayTypeTree) type).getType() : type;
        allow(single instanceof PrimitiveTypeTree, "2", tree);
        return super.visitVariable(tree, none);
    }

    @Override
    public Void visitPrimitiveType(PrimitiveTypeTree tree, Void none) {
        String name = tree.toString();
        allow(!name.equals("float") && !name.equals("double"), "2", tree);
        return null;
    }

    @Override
    public Void visitNewArray(NewArrayTree tree, Void none) {
        allow(inField && tree.getDimensions().size() == 1 && tree.getInitializers() == null, "4", tree);
        for (ExpressionTree length : tree.getDimensions()) {
            allow(length instanceof LiteralTree || length instanceof IdentifierTree, "4, length", tree);
        }
        return super.visitNewArray(tree, none);
    }

    @Override
    public Void visitMemberSelect(MemberSelectTree tree, Void none) {
        allow(tree.getExpression().toString().equals("this"), "3", tree);
        return super.visitMemberSelect(tree, none);
    }

    @Override
    public Void visitMethodInvocation(MethodInvocationTree tree, Void none) {
        allow(tree.getMethodSelect() instanceof IdentifierTree, "3", tree);
        callsOf.get(method).add(tree.getMethodSelect().toString());
        allow(openCalls == 0, "10, a call in an argument", tree);
        openCalls++;
        super.visitMethodInvocation(tree, none);
        openCalls--;
        return null;
    }

    // Stricter than rule 8: a for loop with a condition is all that the class needs.
    @Override
    public Void visitWhileLoop(WhileLoopTree tree, Void none) {
        allow(false, "8", tree);
        return super.visitWhileLoop(tree, none);
    }

    @Override
    public Void visitDoWhileLoop(DoWhileLoopTree tree, Void none) {
        allow(false, "8", tree);
        return super.visitDoWhileLoop(tree, none);
    }

    @Override
    public Void visitForLoop(ForLoopTree tree, Void none) {
        allow(tree.getCondition() != null && tree.getUpdate().size() == 1, "8", tree);
        return super.visitForLoop(tree, none);
    }
}
