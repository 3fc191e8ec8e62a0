import com.sun.source.tree.ArrayTypeTree;
import com.sun.source.tree.BlockTree;
import com.sun.source.tree.ClassTree;
import com.sun.source.tree.CompilationUnitTree;
import com.sun.source.tree.DoWhileLoopTree;
import com.sun.source.tree.EnhancedForLoopTree;
import com.sun.source.tree.ExpressionTree;
import com.sun.source.tree.ForLoopTree;
import com.sun.source.tree.IdentifierTree;
import com.sun.source.tree.LiteralTree;
import com.sun.source.tree.MemberSelectTree;
import com.sun.source.tree.MethodInvocationTree;
import com.sun.source.tree.MethodTree;
import com.sun.source.tree.NewArrayTree;
import com.sun.source.tree.PrimitiveTypeTree;
import com.sun.source.tree.Tree;
import com.sun.source.tree.TypeCastTree;
import com.sun.source.tree.VariableTree;
import com.sun.source.tree.WhileLoopTree;
import com.sun.source.util.JavacTask;
import com.sun.source.util.SourcePositions;
import com.sun.source.util.TreeScanner;
import com.sun.source.util.Trees;
import java.io.IOException;
import java.nio.file.Path;
import java.util.ArrayList;
import java.util.EnumSet;
import java.util.HashMap;
import java.util.HashSet;
import java.util.List;
import java.util.Map;
import java.util.Set;
import java.util.TreeSet;
import javax.lang.model.element.Modifier;
import javax.lang.model.type.TypeKind;
import javax.tools.JavaCompiler;
import javax.tools.StandardJavaFileManager;
import javax.tools.ToolProvider;

/** The rules of LANGUAGE.md that can be read off the program's tree; each fault is told with its rule's number. */
public final class LanguageTest extends TreeScanner<Void, Void> {
    private static final Path PROGRAM = Path.of("src/main/java/ReportCompiler.java");
    private static final int MOST_PARAMETERS = 7;
    private static final int MOST_LINES = 60;
    private static final int MOST_DEPTH = 6;
    private static final int MOST_FIELDS = 40;
    private static final Set<Tree.Kind> FORBIDDEN = EnumSet.of(Tree.Kind.THROW, Tree.Kind.TRY, Tree.Kind.CATCH,
            Tree.Kind.SYNCHRONIZED, Tree.Kind.ASSERT, Tree.Kind.INSTANCE_OF, Tree.Kind.LAMBDA_EXPRESSION,
            Tree.Kind.MEMBER_REFERENCE, Tree.Kind.NEW_CLASS, Tree.Kind.ANNOTATION, Tree.Kind.STRING_LITERAL,
            Tree.Kind.FLOAT_LITERAL, Tree.Kind.DOUBLE_LITERAL, Tree.Kind.NULL_LITERAL, Tree.Kind.IMPORT,
            Tree.Kind.PACKAGE, Tree.Kind.INTERFACE, Tree.Kind.ENUM, Tree.Kind.RECORD, Tree.Kind.ANNOTATION_TYPE,
            Tree.Kind.PARAMETERIZED_TYPE);

    private final Set<String> faults = new TreeSet<>();
    private final Map<String, Set<String>> calls = new HashMap<>();
    private final Set<String> constants = new HashSet<>();
    private final Set<String> arrayFields = new HashSet<>();
    private String method = "";

    public static void main(String[] args) throws IOException {
        Check check = new Check();
        LanguageTest test = new LanguageTest();
        test.read();
        check.due("the rules of LANGUAGE.md that are broken", test.faults.toString(), "[]");
        check.due("methods were read", test.calls.size() > 10, true);
        check.end();
    }

    private void fault(int rule, String what) {
        faults.add("rule " + rule + ": " + what + (method.isEmpty() ? "" : " in " + method));
    }

    private void read() throws IOException {
        JavaCompiler compiler = ToolProvider.getSystemJavaCompiler();
        try (StandardJavaFileManager files = compiler.getStandardFileManager(null, null, null)) {
            JavacTask task = (JavacTask) compiler.getTask(null, files, null, null, null,
                    files.getJavaFileObjects(PROGRAM));
            for (CompilationUnitTree unit : task.parse()) {
                readUnit(unit, Trees.instance(task).getSourcePositions());
            }
        }
    }

    private void readUnit(CompilationUnitTree unit, SourcePositions positions) {
        if (unit.getTypeDecls().size() != 1 || unit.getTypeDecls().get(0).getKind() != Tree.Kind.CLASS) {
            fault(1, "not one class");
            return;
        }
        ClassTree program = (ClassTree) unit.getTypeDecls().get(0);
        readMembers(program);
        for (Tree member : program.getMembers()) {
            if (member instanceof MethodTree) {
                readLength(unit, positions, (MethodTree) member);
            }
        }
        scan(unit, null);
        readDepth();
    }

    private void readMembers(ClassTree program) {
        int fields = 0;
        for (Tree member : program.getMembers()) {
            if (member instanceof VariableTree) {
                VariableTree field = (VariableTree) member;
                boolean constant = field.getModifiers().getFlags().contains(Modifier.STATIC);
                fields += constant ? 0 : 1;
                readField(field, constant);
            } else if (member instanceof MethodTree) {
                String name = ((MethodTree) member).getName().toString();
                if (calls.put(name, new TreeSet<>()) != null) {
                    fault(1, "two methods bear the name " + name);
                }
            } else {
                fault(member instanceof BlockTree ? 5 : 1, "a member that is neither field nor method");
            }
        }
        if (fields > MOST_FIELDS) {
            fault(10, fields + " fields");
        }
    }

    private void readField(VariableTree field, boolean constant) {
        String name = field.getName().toString();
        Set<Modifier> flags = field.getModifiers().getFlags();
        if (constant) {
            constants.add(name);
            String type = field.getType().toString();
            if (!flags.contains(Modifier.FINAL) || !type.equals("int") && !type.equals("long")) {
                fault(5, name + " is no constant of int or long");
            }
        } else if (field.getType() instanceof ArrayTypeTree) {
            arrayFields.add(name);
            // An array field that is final and made where it stands is assigned to by no method.
            if (!flags.contains(Modifier.FINAL) || !(field.getInitializer() instanceof NewArrayTree)) {
                fault(4, name + " is not made once, in its initialiser");
            } else {
                readNewArray(name, (NewArrayTree) field.getInitializer());
            }
        }
    }

    private void readNewArray(String name, NewArrayTree made) {
        List<? extends ExpressionTree> lengths = made.getDimensions();
        if (lengths.size() != 1 || made.getInitializers() != null) {
            fault(4, name + " is not made with one length");
            return;
        }
        ExpressionTree length = lengths.get(0);
        boolean named = length instanceof IdentifierTree && constants.contains(length.toString());
        if (!named && !(length instanceof LiteralTree)) {
            fault(4, name + " has a length that is neither literal nor constant");
        }
    }

    private void readLength(CompilationUnitTree unit, SourcePositions positions, MethodTree tree) {
        // The constructor that the compiler would add has no place in the file.
        long start = positions.getStartPosition(unit, tree);
        long end = positions.getEndPosition(unit, tree);
        if (start >= 0 && end >= 0) {
            long lines = unit.getLineMap().getLineNumber(end) - unit.getLineMap().getLineNumber(start) + 1;
            if (lines > MOST_LINES) {
                fault(10, tree.getName() + " has " + lines + " lines");
            }
        }
    }

    /** Takes away, round by round, the methods that call no method still there; six rounds leave none. */
    private void readDepth() {
        Map<String, Set<String>> left = new HashMap<>(calls);
        for (int depth = 1; depth <= MOST_DEPTH; depth++) {
            Set<String> names = new HashSet<>(left.keySet());
            List<String> done = new ArrayList<>();
            left.forEach((name, called) -> {
                if (called.stream().noneMatch(names::contains)) {
                    done.add(name);
                }
            });
            done.forEach(left::remove);
        }
        if (!left.isEmpty()) {
            fault(10, "calls that go deeper than six, or a recursion: " + new TreeSet<>(left.keySet()));
        }
    }

    @Override
    public Void scan(Tree tree, Void unused) {
        if (tree != null && FORBIDDEN.contains(tree.getKind())) {
            fault(6, "the forbidden " + tree.getKind());
        }
        return super.scan(tree, unused);
    }

    @Override
    public Void visitMethod(MethodTree tree, Void unused) {
        method = tree.getName().toString();
        if (tree.getParameters().size() > MOST_PARAMETERS) {
            fault(10, "too many parameters");
        }
        if (tree.getReturnType() instanceof ArrayTypeTree) {
            fault(4, "an array that is answered");
        }
        if (tree.getReturnType() != null && !isAllowed(tree.getReturnType())
                && !tree.getReturnType().toString().equals("void")) {
            fault(2, "the type " + tree.getReturnType());
        }
        super.visitMethod(tree, unused);
        method = "";
        return null;
    }

    @Override
    public Void visitVariable(VariableTree tree, Void unused) {
        Tree type = tree.getType();
        Tree element = type instanceof ArrayTypeTree ? ((ArrayTypeTree) type).getType() : type;
        if (element == null || !isAllowed(element)) {
            fault(2, "the type of " + tree.getName());
        }
        return super.visitVariable(tree, unused);
    }

    private static boolean isAllowed(Tree type) {
        if (!(type instanceof PrimitiveTypeTree)) {
            return false;
        }
        TypeKind kind = ((PrimitiveTypeTree) type).getPrimitiveTypeKind();
        return kind != TypeKind.FLOAT && kind != TypeKind.DOUBLE && kind != TypeKind.VOID;
    }

    @Override
    public Void visitTypeCast(TypeCastTree tree, Void unused) {
        if (!isAllowed(tree.getType())) {
            fault(6, "a cast to " + tree.getType());
        }
        return super.visitTypeCast(tree, unused);
    }

    @Override
    public Void visitNewArray(NewArrayTree tree, Void unused) {
        if (!method.isEmpty()) {
            fault(4, "an array that a method makes");
        }
        return super.visitNewArray(tree, unused);
    }

    @Override
    public Void visitMemberSelect(MemberSelectTree tree, Void unused) {
        if (!tree.getIdentifier().contentEquals("length") || !arrayFields.contains(tree.getExpression().toString())) {
            fault(3, tree.toString());
        }
        return super.visitMemberSelect(tree, unused);
    }

    @Override
    public Void visitMethodInvocation(MethodInvocationTree tree, Void unused) {
        String name = tree.getMethodSelect().toString();
        if (name.equals("super")) {
            return null;
        }
        if (!calls.containsKey(name)) {
            fault(3, "a call of " + name);
        } else {
            calls.get(method).add(name);
        }
        for (ExpressionTree argument : tree.getArguments()) {
            if (holdsCall(argument)) {
                fault(10, "a call inside the arguments of " + name);
            }
        }
        return super.visitMethodInvocation(tree, unused);
    }

    private static boolean holdsCall(Tree tree) {
        boolean[] found = new boolean[1];
        new TreeScanner<Void, Void>() {
            @Override
            public Void visitMethodInvocation(MethodInvocationTree inner, Void unused) {
                found[0] = true;
                return null;
            }
        }.scan(tree, null);
        return found[0];
    }

    @Override
    public Void visitForLoop(ForLoopTree tree, Void unused) {
        if (tree.getCondition() == null || tree.getInitializer().isEmpty() || tree.getUpdate().isEmpty()) {
            fault(8, "a for without a counter against a bound");
        }
        return super.visitForLoop(tree, unused);
    }

    // Allowed by LANGUAGE.md, but a program that has only counting loops shows their ends on one line each.
    @Override
    public Void visitWhileLoop(WhileLoopTree tree, Void unused) {
        fault(8, "a while");
        return super.visitWhileLoop(tree, unused);
    }

    @Override
    public Void visitDoWhileLoop(DoWhileLoopTree tree, Void unused) {
        fault(8, "a do");
        return super.visitDoWhileLoop(tree, unused);
    }

    @Override
    public Void visitEnhancedForLoop(EnhancedForLoopTree tree, Void unused) {
        fault(8, "a for over an array");
        return super.visitEnhancedForLoop(tree, unused);
    }
}
