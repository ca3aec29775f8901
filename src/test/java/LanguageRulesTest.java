import com.sun.source.tree.ClassTree;
import com.sun.source.tree.CompilationUnitTree;
import com.sun.source.tree.ExpressionTree;
import com.sun.source.tree.IdentifierTree;
import com.sun.source.tree.LiteralTree;
import com.sun.source.tree.MethodInvocationTree;
import com.sun.source.tree.MethodTree;
import com.sun.source.tree.NewArrayTree;
import com.sun.source.tree.Tree;
import com.sun.source.tree.TypeCastTree;
import com.sun.source.tree.VariableTree;
import com.sun.source.util.JavacTask;
import com.sun.source.util.SourcePositions;
import com.sun.source.util.TreeScanner;
import com.sun.source.util.Trees;
import java.io.File;
import java.util.ArrayList;
import java.util.HashMap;
import java.util.List;
import java.util.Map;
import java.util.Set;
import java.util.TreeSet;
import javax.lang.model.element.Modifier;
import javax.tools.JavaCompiler;
import javax.tools.StandardJavaFileManager;
import javax.tools.ToolProvider;

/** The rules of ../shared/LANGUAGE.md that can be read off the source's tree. */
public final class LanguageRulesTest {
    private static final Set<String> TYPES = Set.of(
        "int", "long", "short", "byte", "char", "boolean", "void",
        "int[]", "long[]", "short[]", "byte[]", "char[]", "boolean[]");
    private static final Set<Tree.Kind> FORBIDDEN = Set.of(
        Tree.Kind.THROW, Tree.Kind.TRY, Tree.Kind.CATCH, Tree.Kind.SYNCHRONIZED, Tree.Kind.ASSERT, Tree.Kind.INSTANCE_OF,
        Tree.Kind.LAMBDA_EXPRESSION, Tree.Kind.MEMBER_REFERENCE, Tree.Kind.NEW_CLASS, Tree.Kind.IMPORT, Tree.Kind.PACKAGE,
        Tree.Kind.STRING_LITERAL, Tree.Kind.NULL_LITERAL, Tree.Kind.FLOAT_LITERAL, Tree.Kind.DOUBLE_LITERAL,
        Tree.Kind.ENHANCED_FOR_LOOP, Tree.Kind.INTERFACE, Tree.Kind.ENUM, Tree.Kind.RECORD, Tree.Kind.ANNOTATION_TYPE);

    private static CompilationUnitTree unit;
    private static SourcePositions positions;
    private static ClassTree theClass;
    private static final Map<String, Set<String>> calls = new HashMap<>();
    private static final Set<String> constants = new TreeSet<>();

    public static void main(String[] args) throws Exception {
        read(new File("src/main/java/NonLocalJump.java"));
        Harness.due("count of types in the file", unit.getTypeDecls().size(), 1);
        fields();
        methods();
        new Scan().scan(unit, null);
        callDepth();
        Harness.finish();
    }

    private static void read(File file) throws Exception {
        JavaCompiler compiler = ToolProvider.getSystemJavaCompiler();
        StandardJavaFileManager files = compiler.getStandardFileManager(null, null, null);
        JavacTask task = (JavacTask) compiler.getTask(null, files, null, null, null, files.getJavaFileObjects(file));
        unit = task.parse().iterator().next();
        positions = Trees.instance(task).getSourcePositions();
        theClass = (ClassTree) unit.getTypeDecls().get(0);
    }

    private static void broken(String rule) {
        Harness.due(rule + ": the source keeps to it", false, true);
    }

    private static void fields() {
        int held = 0;
        for (Tree member : theClass.getMembers()) {
            if (!(member instanceof VariableTree)) {
                if (!(member instanceof MethodTree)) {
                    broken("rule 1 or 5, a member that is no field and no method: " + member.getKind());
                }
                continue;
            }
            VariableTree field = (VariableTree) member;
            Set<Modifier> modifiers = field.getModifiers().getFlags();
            if (modifiers.contains(Modifier.STATIC)) {
                constants.add(field.getName().toString());
                String type = field.getType().toString();
                if (!modifiers.contains(Modifier.FINAL) || !type.equals("int") && !type.equals("long")) {
                    broken("rule 5, static field " + field.getName());
                }
            } else {
                held++;
                if (!modifiers.contains(Modifier.PRIVATE)) {
                    broken("rule 1, field " + field.getName());
                }
            }
        }
        Harness.due("rule 10, " + held + " fields are at most 40", held <= 40, true);
    }

    private static void methods() {
        Set<String> names = new TreeSet<>();
        for (Tree member : theClass.getMembers()) {
            if (member instanceof MethodTree) {
                MethodTree method = (MethodTree) member;
                String name = method.getName().toString();
                if (!names.add(name)) {
                    broken("rule 1, two methods named " + name);
                }
                Harness.due("rule 10, parameters of " + name, method.getParameters().size() <= 7, true);
                long first = unit.getLineMap().getLineNumber(positions.getStartPosition(unit, method));
                long last = unit.getLineMap().getLineNumber(positions.getEndPosition(unit, method));
                Harness.due("rule 10, " + (last - first + 1) + " lines of " + name, last - first < 60, true);
            }
        }
    }

    /** Each method's depth is one more than the deepest that it calls; a circle never gets one. */
    private static void callDepth() {
        Map<String, Integer> depth = new HashMap<>();
        for (int round = 0; round < calls.size(); round++) {
            for (String name : calls.keySet()) {
                int deepest = 0;
                for (String called : calls.get(name)) {
                    deepest = Math.max(deepest, depth.getOrDefault(called, 1000));
                }
                if (deepest < 1000) {
                    depth.put(name, deepest + 1);
                }
            }
        }
        for (String name : calls.keySet()) {
            Harness.due("rules 8 and 10, depth " + depth.get(name) + " of calls from " + name,
                depth.getOrDefault(name, 1000) <= 6, true);
        }
    }

    private static final class Scan extends TreeScanner<Void, Void> {
        private String method = "";
        private boolean inArguments = false;

        @Override
        public Void scan(Tree tree, Void nothing) {
            if (tree != null && FORBIDDEN.contains(tree.getKind())) {
                broken("rules 2, 3, 4 or 6, " + tree);
            }
            return super.scan(tree, nothing);
        }

        @Override
        public Void visitClass(ClassTree tree, Void nothing) {
            if (tree != theClass) {
                broken("rule 1, nested class " + tree.getSimpleName());
            }
            return super.visitClass(tree, nothing);
        }

        @Override
        public Void visitMethod(MethodTree tree, Void nothing) {
            method = tree.getName().toString();
            calls.put(method, new TreeSet<>());
            if (tree.getReturnType() != null) {
                String type = tree.getReturnType().toString();
                Harness.due("rules 2 and 4, answer of " + method, TYPES.contains(type) && !type.endsWith("]"), true);
            }
            super.visitMethod(tree, nothing);
            method = "";
            return null;
        }

        @Override
        public Void visitVariable(VariableTree tree, Void nothing) {
            String type = String.valueOf(tree.getType());
            Harness.due("rule 2, type " + type + " of " + tree.getName(), TYPES.contains(type), true);
            return super.visitVariable(tree, nothing);
        }

        @Override
        public Void visitNewArray(NewArrayTree tree, Void nothing) {
            List<ExpressionTree> sizes = new ArrayList<>(tree.getDimensions());
            boolean fixed = sizes.size() == 1 && method.isEmpty() && tree.getInitializers() == null
                && (sizes.get(0) instanceof LiteralTree
                    || sizes.get(0) instanceof IdentifierTree && constants.contains(sizes.get(0).toString()));
            Harness.due("rule 4, " + tree, fixed, true);
            return super.visitNewArray(tree, nothing);
        }

        @Override
        public Void visitTypeCast(TypeCastTree tree, Void nothing) {
            String type = tree.getType().toString();
            Harness.due("rule 6, " + tree, TYPES.contains(type) && !type.endsWith("]"), true);
            return super.visitTypeCast(tree, nothing);
        }

        @Override
        public Void visitMethodInvocation(MethodInvocationTree tree, Void nothing) {
            String called = tree.getMethodSelect().toString();
            // The call to the constructor above is the compiler's own.
            if (!called.equals("super")) {
                Harness.due("rule 10, call inside arguments: " + tree, inArguments, false);
                Harness.due("rule 3, " + called + " is a method of the class", tree.getMethodSelect() instanceof IdentifierTree, true);
                calls.get(method).add(called);
            }
            boolean before = inArguments;
            inArguments = true;
            scan(tree.getArguments(), nothing);
            inArguments = before;
            return null;
        }
    }
}
