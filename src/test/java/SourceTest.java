import com.sun.source.tree.*;
import com.sun.source.util.JavacTask;
import com.sun.source.util.SourcePositions;
import com.sun.source.util.TreeScanner;
import com.sun.source.util.Trees;
import java.io.File;
import java.util.ArrayList;
import java.util.Arrays;
import java.util.List;
import java.util.Set;
import java.util.TreeMap;
import java.util.TreeSet;
import javax.tools.JavaCompiler;
import javax.tools.StandardJavaFileManager;
import javax.tools.ToolProvider;

/** Those rules of LANGUAGE.md that the compiler's own tree of the class can show. */
public final class SourceTest {
    private static final Set<String> LIBRARY = new TreeSet<>(Arrays.asList("String", "Integer", "Math", "System"));
    private static final Set<String> USED = new TreeSet<>(Arrays.asList("Integer.bitCount", "Math.max", "Math.min",
        "System.arraycopy", "script.length", "script.charAt"));
    private static final Set<String> TYPES = new TreeSet<>(Arrays.asList("int", "long", "boolean", "String", "int[]",
        "Table", "Table[]", "Text", "Hearsay"));
    private static final Set<String> MAKERS = new TreeSet<>(Arrays.asList("<init>", "tables"));
    private static final Set<String> GUARDED = new TreeSet<>(Arrays.asList("at", "put", "tableAt", "tables"));
    private static final Check check = new Check();

    public static void main(String[] args) throws Exception {
        File file = new File(args.length > 0 ? args[0] : "src/main/java/LastTongue.java");
        JavaCompiler compiler = ToolProvider.getSystemJavaCompiler();
        StandardJavaFileManager files = compiler.getStandardFileManager(null, null, null);
        JavacTask task = (JavacTask) compiler.getTask(null, files, null, null, null, files.getJavaFileObjects(file));
        CompilationUnitTree unit = task.parse().iterator().next();
        check.due("rule 0: imports", unit.getImports().size(), 0);
        check.holds("rule 0: no package", unit.getPackageName() == null);
        check.due("rule 1: classes at the top", unit.getTypeDecls().size(), 1);
        Looker looker = new Looker(unit, Trees.instance(task).getSourcePositions());
        looker.scan(unit, null);
        check.holds("rule 11: classes", looker.classes <= 12);
        looker.depths();
        looker.names();
        looker.library();
        check.close("SourceTest");
    }

    private static final class Looker extends TreeScanner<Void, Void> {
        private final CompilationUnitTree unit;
        private final SourcePositions places;
        private final TreeMap<String, TreeSet<String>> calls = new TreeMap<>();
        private final TreeSet<String> open = new TreeSet<>();
        private final TreeSet<String> closed = new TreeSet<>();
        private final TreeSet<String> ofOthers = new TreeSet<>();
        private String method = "";
        int classes = 0;

        Looker(CompilationUnitTree unit, SourcePositions places) {
            this.unit = unit;
            this.places = places;
        }

        private long line(Tree tree) {
            return unit.getLineMap().getLineNumber(places.getStartPosition(unit, tree));
        }

        private void none(String rule, Tree tree) {
            check.holds(rule + ", line " + line(tree), false);
        }

        @Override public Void visitClass(ClassTree tree, Void v) {
            classes++;
            int fields = 0;
            for (Tree member : tree.getMembers()) {
                boolean field = member instanceof VariableTree;
                boolean constant = field && ((VariableTree) member).getModifiers().getFlags()
                    .contains(javax.lang.model.element.Modifier.STATIC);
                fields += field && !constant ? 1 : 0;
                check.holds("rule 5: static and final, line " + line(member), !constant
                    || ((VariableTree) member).getModifiers().getFlags()
                        .contains(javax.lang.model.element.Modifier.FINAL));
                check.holds("rule 5: no block, line " + line(member), !(member instanceof BlockTree));
            }
            check.holds("rule 11: fields of " + tree.getSimpleName(), fields <= 20);
            return super.visitClass(tree, v);
        }

        @Override public Void visitMethod(MethodTree tree, Void v) {
            String before = method;
            method = tree.getName().toString();
            long lines = unit.getLineMap().getLineNumber(places.getEndPosition(unit, tree)) - line(tree) + 1;
            check.holds("rule 11: lines of " + method, lines <= 60);
            check.holds("rule 11: parameters of " + method, tree.getParameters().size() <= 7);
            calls.putIfAbsent(method, new TreeSet<>());
            boolean isOpen = tree.getModifiers().getFlags().contains(javax.lang.model.element.Modifier.PUBLIC);
            (isOpen ? open : closed).add(method);
            super.visitMethod(tree, v);
            method = before;
            return null;
        }

        @Override public Void visitMethodInvocation(MethodInvocationTree tree, Void v) {
            ExpressionTree called = tree.getMethodSelect();
            if (called instanceof IdentifierTree) {
                called(((IdentifierTree) called).getName().toString());
            } else if (called instanceof MemberSelectTree) {
                String of = ((MemberSelectTree) called).getExpression().toString();
                String name = ((MemberSelectTree) called).getIdentifier().toString();
                if (!LIBRARY.contains(of)) {
                    called(name);
                }
                ofOthers.add(of + "." + name);
            }
            return super.visitMethodInvocation(tree, v);
        }

        private void called(String name) {
            calls.computeIfAbsent(method, key -> new TreeSet<>()).add(name);
        }

        @Override public Void visitArrayAccess(ArrayAccessTree tree, Void v) {
            check.holds("rule 7: an index outside the guarded steps, line " + line(tree), GUARDED.contains(method));
            return super.visitArrayAccess(tree, v);
        }

        @Override public Void visitVariable(VariableTree tree, Void v) {
            check.holds("rule 3: the type of " + tree.getName(), TYPES.contains(tree.getType().toString()));
            return super.visitVariable(tree, v);
        }

        @Override public Void visitNewClass(NewClassTree tree, Void v) {
            check.holds("rule 12: an object is made, line " + line(tree), MAKERS.contains(method));
            check.holds("rule 2: a class without a name, line " + line(tree), tree.getClassBody() == null);
            return super.visitNewClass(tree, v);
        }

        @Override public Void visitNewArray(NewArrayTree tree, Void v) {
            check.holds("rule 12: an array is made, line " + line(tree), MAKERS.contains(method));
            return super.visitNewArray(tree, v);
        }

        @Override public Void visitLiteral(LiteralTree tree, Void v) {
            if (tree.getValue() instanceof String) {
                boolean plain = ((String) tree.getValue()).chars().allMatch(sign -> sign >= 1 && sign <= 127);
                check.holds("rule 4: a constant's signs, line " + line(tree), plain);
            }
            return super.visitLiteral(tree, v);
        }

        @Override public Void visitLambdaExpression(LambdaExpressionTree tree, Void v) {
            none("rule 2: a lambda", tree);
            return null;
        }

        @Override public Void visitMemberReference(MemberReferenceTree tree, Void v) {
            none("rule 2: a method reference", tree);
            return null;
        }

        @Override public Void visitThrow(ThrowTree tree, Void v) {
            none("rule 6: the document names no exception", tree);
            return null;
        }

        @Override public Void visitTry(TryTree tree, Void v) {
            none("rule 6: nothing is thrown, so nothing is caught", tree);
            return null;
        }

        @Override public Void visitSynchronized(SynchronizedTree tree, Void v) {
            none("rule 6: synchronized", tree);
            return null;
        }

        @Override public Void visitAssert(AssertTree tree, Void v) {
            none("rule 6: assert", tree);
            return null;
        }

        @Override public Void visitWhileLoop(WhileLoopTree tree, Void v) {
            none("rule 9: a loop without a counter", tree);
            return null;
        }

        @Override public Void visitDoWhileLoop(DoWhileLoopTree tree, Void v) {
            none("rule 9: a loop without a counter", tree);
            return null;
        }

        @Override public Void visitForLoop(ForLoopTree tree, Void v) {
            check.holds("rule 9: a bound, line " + line(tree), tree.getCondition() != null);
            return super.visitForLoop(tree, v);
        }

        @Override public Void visitTypeCast(TypeCastTree tree, Void v) {
            check.holds("rule 6: a cast among numbers only, line " + line(tree),
                tree.getType() instanceof PrimitiveTypeTree);
            return super.visitTypeCast(tree, v);
        }

        void names() {
            closed.remove("<init>");
            for (String name : closed) {
                check.holds("rule 1: " + name + " bears the name of a public one", !open.contains(name));
            }
        }

        /** A call by a name and a dot is one of the class's own methods, or stands in rule 4 and is known here. */
        void library() {
            for (String call : ofOthers) {
                String name = call.substring(call.lastIndexOf('.') + 1);
                check.holds("rule 4: " + call, USED.contains(call) || closed.contains(name));
            }
        }

        /** How deep calls go by name; a method that calls itself counts once. */
        void depths() {
            for (String name : calls.keySet()) {
                check.holds("rule 11: calls below " + name, depth(name, new ArrayList<>()) <= 8);
            }
        }

        private int depth(String name, List<String> open) {
            int deepest = 0;
            List<String> now = new ArrayList<>(open);
            now.add(name);
            for (String next : calls.getOrDefault(name, new TreeSet<>())) {
                check.holds("rule 8: " + next + " comes back to itself", !open.contains(next));
                if (!next.equals(name) && !open.contains(next)) {
                    deepest = Math.max(deepest, depth(next, now));
                }
            }
            return deepest + 1;
        }
    }
}
