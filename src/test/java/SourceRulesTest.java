import com.sun.source.tree.ArrayAccessTree;
import com.sun.source.tree.AssignmentTree;
import com.sun.source.tree.BinaryTree;
import com.sun.source.tree.BlockTree;
import com.sun.source.tree.ClassTree;
import com.sun.source.tree.CompilationUnitTree;
import com.sun.source.tree.ExpressionTree;
import com.sun.source.tree.ForLoopTree;
import com.sun.source.tree.IdentifierTree;
import com.sun.source.tree.LiteralTree;
import com.sun.source.tree.MemberSelectTree;
import com.sun.source.tree.MethodInvocationTree;
import com.sun.source.tree.MethodTree;
import com.sun.source.tree.NewArrayTree;
import com.sun.source.tree.NewClassTree;
import com.sun.source.tree.PrimitiveTypeTree;
import com.sun.source.tree.Tree;
import com.sun.source.tree.VariableTree;
import com.sun.source.tree.WhileLoopTree;
import com.sun.source.util.JavacTask;
import com.sun.source.util.SourcePositions;
import com.sun.source.util.TreeScanner;
import com.sun.source.util.Trees;
import java.nio.file.Path;
import java.util.EnumSet;
import java.util.HashMap;
import java.util.HashSet;
import java.util.Map;
import java.util.Set;
import java.util.TreeSet;
import javax.lang.model.element.Modifier;
import javax.lang.model.type.TypeKind;
import javax.tools.JavaCompiler;
import javax.tools.StandardJavaFileManager;
import javax.tools.ToolProvider;

/**
 * The rules of LANGUAGE.md that can be read off the source, by their numbers; stricter than they are where
 * the class has no use for what they allow (casts, doubles, recursion, most of the library).
 */
public final class SourceRulesTest {
    private static final Path SOURCE = Path.of("src", "main", "java", "PicturePath.java");
    private static final int MOST_CLASSES = 12, MOST_PARAMETERS = 7, MOST_LINES = 60, MOST_DEPTH = 8, MOST_FIELDS = 20;

    private static final Set<Tree.Kind> FORBIDDEN = EnumSet.of(
        Tree.Kind.LAMBDA_EXPRESSION, Tree.Kind.MEMBER_REFERENCE, Tree.Kind.TRY, Tree.Kind.CATCH, Tree.Kind.THROW,
        Tree.Kind.SYNCHRONIZED, Tree.Kind.ASSERT, Tree.Kind.TYPE_CAST, Tree.Kind.INSTANCE_OF, Tree.Kind.ANNOTATION);
    /** Of what rule 4 allows, what the class has a use for. */
    private static final Set<String> LIBRARY = Set.of(
        "Math.min", "Math.max", "Math.floorDiv", "Integer.bitCount", "Arrays.fill", "System.arraycopy");
    private static final Set<String> LIBRARY_CLASSES = Set.of("Math", "Integer", "Long", "Arrays", "System", "String");

    private static final Dues dues = new Dues();

    public static void main(String[] args) throws Exception {
        JavaCompiler compiler = ToolProvider.getSystemJavaCompiler();
        try (StandardJavaFileManager files = compiler.getStandardFileManager(null, null, null)) {
            JavacTask task = (JavacTask) compiler.getTask(null, files, null, null, null, files.getJavaFileObjects(SOURCE));
            CompilationUnitTree unit = task.parse().iterator().next();
            Source source = new Source(unit, Trees.instance(task).getSourcePositions());
            dues.holds("no package line", unit.getPackageName() == null);
            dues.due("classes in the file, beside those inside", unit.getTypeDecls().size(), 1);
            source.scan(unit, null);
            source.end();
        }
        dues.end();
    }

    private static final class Source extends TreeScanner<Void, Void> {
        private final CompilationUnitTree unit;
        private final SourcePositions positions;
        private final Map<String, Set<String>> calls = new HashMap<>();
        private final Set<String> publicNames = new HashSet<>();
        private final Set<String> otherNames = new HashSet<>();
        private final Set<String> ownClasses = new HashSet<>();
        private String method = "";

        Source(CompilationUnitTree unit, SourcePositions positions) {
            this.unit = unit;
            this.positions = positions;
        }

        @Override
        public Void scan(Tree tree, Void v) {
            if (tree != null) {
                dues.holds("rules 2, 6: " + tree.getKind() + " in " + method, !FORBIDDEN.contains(tree.getKind()));
            }
            return super.scan(tree, v);
        }

        @Override
        public Void visitClass(ClassTree c, Void v) {
            String name = c.getSimpleName().toString();
            dues.about("class " + name);
            dues.holds("rule 2: no local or anonymous class", method.isEmpty() && !name.isEmpty());
            if (!ownClasses.isEmpty()) {
                dues.holds("rule 2: static inside", c.getModifiers().getFlags().contains(Modifier.STATIC));
            }
            ownClasses.add(name);
            int fields = 0;
            for (Tree member : c.getMembers()) {
                dues.holds("rule 5: no initialiser block", !(member instanceof BlockTree));
                if (member instanceof VariableTree field) {
                    boolean isStatic = field.getModifiers().getFlags().contains(Modifier.STATIC);
                    fields += isStatic ? 0 : 1;
                    if (isStatic) {
                        staticField(field);
                    }
                }
            }
            dues.holds("rule 11: some twenty fields", fields <= MOST_FIELDS);
            return super.visitClass(c, v);
        }

        private void staticField(VariableTree field) {
            dues.holds("rule 5: final " + field.getName(), field.getModifiers().getFlags().contains(Modifier.FINAL));
            if (field.getInitializer() instanceof NewArrayTree array) {
                dues.holds("rule 5: written out " + field.getName(), array.getInitializers() != null);
                for (ExpressionTree number : array.getInitializers()) {
                    boolean plain = number instanceof LiteralTree || number.getKind() == Tree.Kind.UNARY_MINUS;
                    dues.holds("rule 5: a number written out in " + field.getName(), plain);
                }
            } else {
                dues.holds("rule 5: a number " + field.getName(), field.getType() instanceof PrimitiveTypeTree);
            }
        }

        @Override
        public Void visitMethod(MethodTree m, Void v) {
            method = m.getName().toString();
            dues.about("method " + method);
            boolean isConstructor = m.getReturnType() == null;
            if (m.getModifiers().getFlags().contains(Modifier.PUBLIC)) {
                publicNames.add(method);
            } else {
                dues.holds("a name of its own, so that calls can be told by name", otherNames.add(method));
            }
            dues.holds("rule 11: seven parameters", m.getParameters().size() <= MOST_PARAMETERS);
            long lines = line(positions.getEndPosition(unit, m)) - line(positions.getStartPosition(unit, m)) + 1;
            dues.holds("rule 11: some sixty lines, not " + lines, lines <= MOST_LINES);
            calls.put(method, new TreeSet<>());
            dues.holds("a method that can be named", isConstructor == method.equals("<init>"));
            super.visitMethod(m, v);
            method = "";
            return null;
        }

        private long line(long position) {
            return unit.getLineMap().getLineNumber(position);
        }

        @Override
        public Void visitMethodInvocation(MethodInvocationTree call, Void v) {
            ExpressionTree select = call.getMethodSelect();
            String name = select instanceof MemberSelectTree s ? s.getIdentifier().toString() : select.toString();
            boolean ofLibrary = LIBRARY.contains(select.toString()) || name.equals("clone");
            if (!ofLibrary && !method.isEmpty()) {
                calls.get(method).add(name);
            }
            return super.visitMethodInvocation(call, v);
        }

        @Override
        public Void visitMemberSelect(MemberSelectTree s, Void v) {
            if (LIBRARY_CLASSES.contains(s.getExpression().toString())) {
                dues.holds("rule 4: " + s, LIBRARY.contains(s.toString()));
            }
            return super.visitMemberSelect(s, v);
        }

        @Override
        public Void visitNewClass(NewClassTree made, Void v) {
            dues.holds("rules 2, 3: an own class " + made, made.getClassBody() == null);
            return super.visitNewClass(made, v);
        }

        @Override
        public Void visitPrimitiveType(PrimitiveTypeTree type, Void v) {
            TypeKind kind = type.getPrimitiveTypeKind();
            dues.holds("rule 3: no " + kind, kind != TypeKind.DOUBLE && kind != TypeKind.FLOAT);
            return super.visitPrimitiveType(type, v);
        }

        @Override
        public Void visitAssignment(AssignmentTree a, Void v) {
            if (a.getVariable() instanceof ArrayAccessTree access && access.getExpression() instanceof IdentifierTree row) {
                String name = row.getName().toString();
                dues.holds("rule 5: never changed " + name, !name.equals(name.toUpperCase()));
            }
            return super.visitAssignment(a, v);
        }

        @Override
        public Void visitBinary(BinaryTree b, Void v) {
            boolean joins = b.getKind() == Tree.Kind.PLUS
                && (b.getLeftOperand().getKind() == Tree.Kind.STRING_LITERAL
                || b.getRightOperand().getKind() == Tree.Kind.STRING_LITERAL);
            dues.holds("rule 10: no joining by +", !joins);
            return super.visitBinary(b, v);
        }

        @Override
        public Void visitForLoop(ForLoopTree loop, Void v) {
            dues.holds("rule 9: a bound and a counter", loop.getCondition() != null && !loop.getUpdate().isEmpty());
            return super.visitForLoop(loop, v);
        }

        @Override
        public Void visitWhileLoop(WhileLoopTree loop, Void v) {
            dues.holds("rule 9: a bound", !(loop.getCondition().toString().equals("(true)")));
            return super.visitWhileLoop(loop, v);
        }

        void end() {
            dues.about("PicturePath.java");
            dues.holds("rule 11: some twelve classes", ownClasses.size() <= MOST_CLASSES);
            for (String name : publicNames) {
                dues.holds("rule 1: no other method bears the name " + name, !otherNames.contains(name));
            }
            for (String from : calls.keySet()) {
                for (String to : calls.get(from)) {
                    dues.holds("rule 4: a method of its own, or of the library: " + to, calls.containsKey(to));
                }
                int deep = depth(from, new HashSet<>());
                dues.holds("rules 8, 11: calls from " + from + " go " + deep + " deep", deep <= MOST_DEPTH);
            }
        }

        /** How many calls stand open at once below this one, itself too; one more than allowed for a circle. */
        private int depth(String from, Set<String> open) {
            if (!open.add(from)) {
                return MOST_DEPTH + 1;
            }
            int deepest = 0;
            for (String to : calls.getOrDefault(from, Set.of())) {
                deepest = Math.max(deepest, depth(to, open));
            }
            open.remove(from);
            return deepest + 1;
        }
    }
}
