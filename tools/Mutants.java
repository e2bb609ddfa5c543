import com.sun.source.tree.*;
import com.sun.source.util.JavacTask;
import com.sun.source.util.SourcePositions;
import com.sun.source.util.TreeScanner;
import com.sun.source.util.Trees;
import java.io.File;
import java.io.IOException;
import java.nio.file.Files;
import java.nio.file.Path;
import java.util.ArrayList;
import java.util.List;
import java.util.Map;
import java.util.TreeMap;
import java.util.TreeSet;
import java.util.concurrent.ExecutorService;
import java.util.concurrent.Executors;
import java.util.concurrent.TimeUnit;
import javax.tools.JavaCompiler;
import javax.tools.StandardJavaFileManager;
import javax.tools.ToolProvider;

/**
 * Tests the tests: changes the class in one place at a time (a number by one, an operator, a condition, a statement
 * left out) and tells which changes no test takes note of, and which sentences' tests took note of none.
 * Usage: java tools/Mutants.java TEST .. (from the project's root; the tests are classes under src/test/java).
 */
public final class Mutants {
    private static final Path SOURCE = Path.of("src/main/java/LastTongue.java");
    private static final Map<String, String> OPERATORS = new TreeMap<>();

    static {
        String[] twos = {"<", "<=", ">", ">=", "==", "!=", "&&", "||", "+", "-", "*", "/", "&", "|", "<<", ">>"};
        for (int i = 0; i < twos.length; i += 2) {
            OPERATORS.put(twos[i], twos[i + 1]);
            OPERATORS.put(twos[i + 1], twos[i]);
        }
        OPERATORS.put("%", "/");
        OPERATORS.put("^", "|");
    }

    private static final class Change {
        final int from;
        final int to;
        final String text;

        Change(int from, int to, String text) {
            this.from = from;
            this.to = to;
            this.text = text;
        }
    }

    private static final class Finder extends TreeScanner<Void, Void> {
        final List<Change> changes = new ArrayList<>();
        private final CompilationUnitTree unit;
        private final SourcePositions places;
        private final String source;

        Finder(CompilationUnitTree unit, SourcePositions places, String source) {
            this.unit = unit;
            this.places = places;
            this.source = source;
        }

        private int start(Tree tree) {
            return (int) places.getStartPosition(unit, tree);
        }

        private int end(Tree tree) {
            return (int) places.getEndPosition(unit, tree);
        }

        private String text(Tree tree) {
            return source.substring(start(tree), end(tree));
        }

        private void change(Tree tree, String text) {
            changes.add(new Change(start(tree), end(tree), text));
        }

        @Override public Void visitLiteral(LiteralTree tree, Void v) {
            if (tree.getValue() instanceof Integer) {
                int number = (Integer) tree.getValue();
                change(tree, "" + (number + 1));
                change(tree, "(" + (number - 1) + ")");
            } else if (tree.getValue() instanceof Boolean) {
                change(tree, "" + !(Boolean) tree.getValue());
            }
            return null;
        }

        @Override public Void visitBinary(BinaryTree tree, Void v) {
            int from = end(tree.getLeftOperand());
            int to = start(tree.getRightOperand());
            String between = source.substring(from, to);
            String operator = between.replaceAll("[()\\s]", "");
            if (OPERATORS.containsKey(operator)) {
                changes.add(new Change(from, to, between.replace(operator, OPERATORS.get(operator))));
            }
            return super.visitBinary(tree, v);
        }

        @Override public Void visitUnary(UnaryTree tree, Void v) {
            if (tree.getKind() == Tree.Kind.LOGICAL_COMPLEMENT || tree.getKind() == Tree.Kind.UNARY_MINUS
                    || tree.getKind() == Tree.Kind.BITWISE_COMPLEMENT) {
                change(tree, text(tree.getExpression()));
            }
            return super.visitUnary(tree, v);
        }

        @Override public Void visitConditionalExpression(ConditionalExpressionTree tree, Void v) {
            change(tree, text(tree.getTrueExpression()));
            change(tree, text(tree.getFalseExpression()));
            return super.visitConditionalExpression(tree, v);
        }

        @Override public Void visitIf(IfTree tree, Void v) {
            change(tree.getCondition(), "(true)");
            change(tree.getCondition(), "(false)");
            return super.visitIf(tree, v);
        }

        @Override public Void visitExpressionStatement(ExpressionStatementTree tree, Void v) {
            if (source.charAt(end(tree) - 1) == ';') {
                change(tree, ";");
            }
            return super.visitExpressionStatement(tree, v);
        }
    }

    public static void main(String[] tests) throws Exception {
        String source = Files.readString(SOURCE);
        JavaCompiler compiler = ToolProvider.getSystemJavaCompiler();
        StandardJavaFileManager files = compiler.getStandardFileManager(null, null, null);
        JavacTask task = (JavacTask) compiler.getTask(null, files, null, null, null, files.getJavaFileObjects(SOURCE));
        CompilationUnitTree unit = task.parse().iterator().next();
        Finder finder = new Finder(unit, Trees.instance(task).getSourcePositions(), source);
        finder.scan(unit, null);
        Path room = Files.createTempDirectory("mutants");
        Path own = Files.createDirectory(room.resolve("own"));
        List<String> command = new ArrayList<>(List.of("-d", own.toString(), SOURCE.toString()));
        for (File file : new File("src/test/java").listFiles()) {
            command.add(file.getPath());
        }
        if (compiler.run(null, null, null, command.toArray(new String[0])) != 0) {
            throw new IllegalStateException("the project does not compile");
        }
        tryAll(finder.changes, source, room, own, tests);
    }

    private static void tryAll(List<Change> changes, String source, Path room, Path own, String[] tests)
            throws InterruptedException {
        TreeSet<String> noted = new TreeSet<>();
        TreeMap<Integer, String> unnoted = new TreeMap<>();
        int[] compiled = {0};
        ExecutorService workers = Executors.newFixedThreadPool(Runtime.getRuntime().availableProcessors());
        for (int i = 0; i < changes.size(); i++) {
            int number = i;
            workers.submit(() -> {
                TreeSet<String> said = tryOne(changes.get(number), source, room.resolve("m" + number), own, tests);
                synchronized (noted) {
                    compiled[0] += said == null ? 0 : 1;
                    if (said != null && said.isEmpty()) {
                        unnoted.put(number, told(source, changes.get(number)));
                    } else if (said != null) {
                        noted.addAll(said);
                    }
                }
                return null;
            });
        }
        workers.shutdown();
        workers.awaitTermination(1, TimeUnit.HOURS);
        unnoted.values().forEach(System.out::println);
        System.out.println(compiled[0] + " changes, " + unnoted.size() + " of them that no test took note of");
        noted.forEach(sentence -> System.out.println("noted by " + sentence));
    }

    private static String told(String source, Change change) {
        int line = source.substring(0, change.from).split("\n", -1).length;
        int start = source.lastIndexOf('\n', change.from) + 1;
        int end = source.indexOf('\n', change.to);
        return line + ": " + (source.substring(start, change.from) + "[" + source.substring(change.from, change.to)
            + " -> " + change.text + "]" + source.substring(change.to, end)).trim();
    }

    /** The sentences whose tests took note of the change; null if it does not compile. */
    private static TreeSet<String> tryOne(Change change, String source, Path room, Path own, String[] tests)
            throws IOException, InterruptedException {
        Files.createDirectory(room);
        Path file = room.resolve("LastTongue.java");
        Files.writeString(file, source.substring(0, change.from) + change.text + source.substring(change.to));
        JavaCompiler compiler = ToolProvider.getSystemJavaCompiler();
        if (compiler.run(null, new java.io.ByteArrayOutputStream(), new java.io.ByteArrayOutputStream(), "-d",
                room.toString(), file.toString()) != 0) {
            return null;
        }
        TreeSet<String> said = new TreeSet<>();
        for (String test : tests) {
            File out = room.resolve(test + ".out").toFile();
            Process run = new ProcessBuilder("java", "-XX:TieredStopAtLevel=1", "-XX:+UseSerialGC", "-cp",
                room + File.pathSeparator + own, test).redirectErrorStream(true).redirectOutput(out).start();
            if (!run.waitFor(60, TimeUnit.SECONDS)) {
                run.destroyForcibly();
                said.add(test + ": no end");
            } else if (run.exitValue() != 0) {
                for (String line : Files.readAllLines(out.toPath())) {
                    int end = line.indexOf("\": ");
                    said.add(test + ": " + (line.startsWith("\"") && end > 0 ? line.substring(1, end) : "another"));
                }
            }
        }
        return said;
    }
}
