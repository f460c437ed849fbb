import com.sun.source.tree.ArrayTypeTree;
import com.sun.source.tree.ClassTree;
import com.sun.source.tree.CompilationUnitTree;
import com.sun.source.tree.ForLoopTree;
import com.sun.source.tree.IdentifierTree;
import com.sun.source.tree.LineMap;
import com.sun.source.tree.LiteralTree;
import com.sun.source.tree.MemberSelectTree;
import com.sun.source.tree.MethodInvocationTree;
import com.sun.source.tree.MethodTree;
import com.sun.source.tree.NewArrayTree;
import com.sun.source.tree.PrimitiveTypeTree;
import com.sun.source.tree.Tree;
import com.sun.source.tree.VariableTree;
import com.sun.source.util.JavacTask;
import com.sun.source.util.SourcePositions;
import com.sun.source.util.TreeScanner;
import com.sun.source.util.Trees;
import java.io.File;
import java.util.EnumSet;
import java.util.HashMap;
import java.util.List;
import java.util.Map;
import java.util.Set;
import java.util.TreeSet;
import javax.lang.model.element.Modifier;
import javax.lang.model.type.TypeKind;
import javax.tools.JavaCompiler;
import javax.tools.StandardJavaFileManager;
import javax.tools.ToolProvider;

/** The rules of ../shared/LANGUAGE.md that can be seen from the source's shape. */
public final class LanguageTest extends TreeScanner<Void, Void> {
    private static final Set<String> FACE = Set.of("<init>", "add", "clear", "boot", "run", "crash", "process", "memory",
        "sharing", "descriptor", "name", "file", "word", "total", "said");

    private static final Set<Tree.Kind> FORBIDDEN = EnumSet.of(Tree.Kind.THROW, Tree.Kind.TRY, Tree.Kind.CATCH,
        Tree.Kind.SYNCHRONIZED, Tree.Kind.ASSERT, Tree.Kind.INSTANCE_OF, Tree.Kind.LAMBDA_EXPRESSION,
        Tree.Kind.MEMBER_REFERENCE, Tree.Kind.NEW_CLASS, Tree.Kind.IMPORT, Tree.Kind.PACKAGE, Tree.Kind.NULL_LITERAL,
        Tree.Kind.STRING_LITERAL, Tree.Kind.FLOAT_LITERAL, Tree.Kind.DOUBLE_LITERAL, Tree.Kind.ENHANCED_FOR_LOOP,
        Tree.Kind.WHILE_LOOP, Tree.Kind.DO_WHILE_LOOP, Tree.Kind.ENUM, Tree.Kind.INTERFACE, Tree.Kind.RECORD,
        Tree.Kind.ANNOTATION);

    private final CompilationUnitTree unit;
    private final SourcePositions positions;
    private final Map<String, Set<String>> calls = new HashMap<>();
    private final Set<String> publicMembers = new TreeSet<>();
    private String method = "";
    private int arguments = 0;
    private int fields = 0;

    private LanguageTest(CompilationUnitTree unit, SourcePositions positions) {
        this.unit = unit;
        this.positions = positions;
    }

    private long line(Tree tree) {
        LineMap lines = unit.getLineMap();
        return lines.getLineNumber(positions.getStartPosition(unit, tree));
    }

    private void rule(int number, Tree tree, boolean kept) {
        Check.due("rule " + number + ", line " + line(tree) + ": kept", true, kept);
    }

    @Override public Void scan(Tree tree, Void nothing) {
        if (tree != null) rule(6, tree, !FORBIDDEN.contains(tree.getKind()));
        return super.scan(tree, nothing);
    }

    @Override public Void visitClass(ClassTree tree, Void nothing) {
        rule(1, tree, tree.getSimpleName().contentEquals("UnixDesk"));
        rule(1, tree, tree.getModifiers().getFlags().equals(EnumSet.of(Modifier.PUBLIC, Modifier.FINAL)));
        return super.visitClass(tree, nothing);
    }

    private void checkAccess(Tree tree, String name, Set<Modifier> flags) {
        boolean isPublic = flags.contains(Modifier.PUBLIC);
        rule(1, tree, isPublic != flags.contains(Modifier.PRIVATE));
        if (isPublic) publicMembers.add(name);
    }

    private boolean isAllowedType(Tree type) {
        Tree element = type instanceof ArrayTypeTree ? ((ArrayTypeTree) type).getType() : type;
        return element instanceof PrimitiveTypeTree
            && ((PrimitiveTypeTree) element).getPrimitiveTypeKind() != TypeKind.FLOAT
            && ((PrimitiveTypeTree) element).getPrimitiveTypeKind() != TypeKind.DOUBLE;
    }

    @Override public Void visitMethod(MethodTree tree, Void nothing) {
        String name = tree.getName().toString();
        Set<Modifier> flags = tree.getModifiers().getFlags();
        checkAccess(tree, name, flags);
        rule(1, tree, FACE.contains(name) == flags.contains(Modifier.PUBLIC));
        rule(1, tree, calls.put(name, new TreeSet<>()) == null);
        rule(10, tree, tree.getParameters().size() <= 7);
        long last = unit.getLineMap().getLineNumber(positions.getEndPosition(unit, tree));
        rule(10, tree, last - line(tree) < 60);
        if (tree.getReturnType() != null) {
            rule(2, tree, tree.getReturnType() instanceof PrimitiveTypeTree && isAllowedType(tree.getReturnType()));
        }
        method = name;
        super.visitMethod(tree, nothing);
        method = "";
        return null;
    }

    @Override public Void visitVariable(VariableTree tree, Void nothing) {
        rule(2, tree, isAllowedType(tree.getType()));
        if (method.isEmpty()) {
            Set<Modifier> flags = tree.getModifiers().getFlags();
            checkAccess(tree, tree.getName().toString(), flags);
            if (flags.contains(Modifier.STATIC)) {
                rule(5, tree, flags.contains(Modifier.FINAL) && tree.getType() instanceof PrimitiveTypeTree);
            } else {
                fields++;
                rule(4, tree, flags.contains(Modifier.FINAL) || tree.getType() instanceof PrimitiveTypeTree);
            }
        }
        return super.visitVariable(tree, nothing);
    }

    @Override public Void visitNewArray(NewArrayTree tree, Void nothing) {
        rule(4, tree, method.isEmpty() && tree.getInitializers() == null && tree.getDimensions().size() == 1);
        Tree length = tree.getDimensions().get(0);
        rule(4, tree, length instanceof LiteralTree || length instanceof IdentifierTree);
        return super.visitNewArray(tree, nothing);
    }

    @Override public Void visitForLoop(ForLoopTree tree, Void nothing) {
        rule(8, tree, tree.getCondition() != null && tree.getUpdate().size() == 1);
        return super.visitForLoop(tree, nothing);
    }

    @Override public Void visitMethodInvocation(MethodInvocationTree tree, Void nothing) {
        rule(3, tree, tree.getMethodSelect() instanceof IdentifierTree);
        rule(10, tree, arguments == 0);
        calls.get(method).add(tree.getMethodSelect().toString());
        arguments++;
        scan(tree.getArguments(), nothing);
        arguments--;
        return null;
    }

    @Override public Void visitMemberSelect(MemberSelectTree tree, Void nothing) {
        rule(3, tree, false);
        return super.visitMemberSelect(tree, nothing);
    }

    /** How many methods deep the calls from this one go; too many if they come back to it. */
    private int depth(String from, int above) {
        int deepest = 0;
        if (above < 50) {
            for (String to : calls.get(from)) deepest = Math.max(deepest, depth(to, above + 1));
        }
        return deepest + 1;
    }

    private void checkWhole() {
        for (String name : calls.keySet()) {
            Check.due("rules 8 and 10: the calls of " + name + " go at most six deep", true, depth(name, 0) <= 6);
        }
        Check.due("rule 10: at most some forty fields, but there are " + fields, true, fields <= 40);
        Set<String> face = new TreeSet<>(FACE);
        face.addAll(List.of("BAD", "FULL"));
        Check.due("rule 1: the public members are the document's", true, face.equals(publicMembers));
    }

    public static void main(String[] args) throws Exception {
        JavaCompiler compiler = ToolProvider.getSystemJavaCompiler();
        try (StandardJavaFileManager files = compiler.getStandardFileManager(null, null, null)) {
            JavacTask task = (JavacTask) compiler.getTask(null, files, null, List.of("-proc:none"), null,
                files.getJavaFileObjects(new File("src/main/java/UnixDesk.java")));
            for (CompilationUnitTree unit : task.parse()) {
                LanguageTest test = new LanguageTest(unit, Trees.instance(task).getSourcePositions());
                test.scan(unit, null);
                test.checkWhole();
            }
        }
        Check.finish();
    }
}
