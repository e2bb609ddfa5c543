import java.io.File;
import java.lang.reflect.Method;
import java.lang.reflect.Modifier;
import java.net.URL;
import java.net.URLClassLoader;
import java.nio.file.Files;
import java.nio.file.Path;
import java.util.ArrayList;
import java.util.Arrays;
import java.util.List;
import java.util.TreeSet;
import java.util.regex.Matcher;
import java.util.regex.Pattern;
import javax.tools.ToolProvider;

/** README.md's own words: its program runs and answers as it says, its calls are the face, its tests are all. */
public final class ReadmeTest {
    private static final Pattern TOLD = Pattern.compile("x\\.(\\w+)\\((.*)\\); +// (-?\\d+|BAD|NO|FULL|NONE)\\b.*");
    private static final Pattern CALL = Pattern.compile("\\| `(\\w+)\\(([\\w, ]*)\\)` \\|.*\\| *([A-Z, ]*?) *\\|");
    private static final Pattern TEST = Pattern.compile("\\b\\w+Test\\b");
    private static final Check check = new Check();

    public static void main(String[] args) throws Exception {
        List<String> lines = Files.readAllLines(Path.of("README.md"));
        program(block(lines, "```java"));
        calls(lines);
        howToRunTheTests(lines);
        check.close("ReadmeTest");
    }

    private static List<String> block(List<String> lines, String head) {
        int start = lines.indexOf(head) + 1;
        int length = lines.subList(start, lines.size()).indexOf("```");
        return lines.subList(start, start + length);
    }

    private static void program(List<String> lines) throws Exception {
        StringBuilder source = new StringBuilder("public final class Steps { public static int[] answers() {");
        source.append("int[] a = new int[").append(lines.size()).append("];\n");
        List<String> calls = new ArrayList<>();
        List<String> due = new ArrayList<>();
        TreeSet<String> names = new TreeSet<>(List.of("write"));
        for (String line : lines) {
            Matcher told = TOLD.matcher(line);
            if (told.matches()) {
                source.append("a[").append(calls.size()).append("] = ");
                calls.add(line);
                due.add(told.group(3));
                names.add(told.group(1));
            }
            source.append(line).append('\n');
        }
        source.append("return a; } }");
        int[] answers = answers(source.toString());
        for (int i = 0; i < calls.size(); i++) {
            check.due(calls.get(i), answers[i], number(due.get(i)));
        }
        check.same("the program shows each call", names.toString(), names(face()).toString());
    }

    private static int number(String told) throws ReflectiveOperationException {
        boolean named = Character.isLetter(told.charAt(0));
        return named ? LastTongue.class.getField(told).getInt(null) : Integer.parseInt(told);
    }

    private static int[] answers(String source) throws Exception {
        Path room = Files.createTempDirectory("readme");
        Path file = room.resolve("Steps.java");
        Files.writeString(file, source);
        // As the page says: the one file, compiled with one's own.
        int failed = ToolProvider.getSystemJavaCompiler().run(null, null, null, "-d", room.toString(),
            "src/main/java/LastTongue.java", file.toString());
        check.due("compiling the program", failed, 0);
        try (URLClassLoader loader = new URLClassLoader(new URL[] {room.toUri().toURL()})) {
            return (int[]) loader.loadClass("Steps").getMethod("answers").invoke(null);
        } finally {
            for (File left : room.toFile().listFiles()) {
                left.delete();
            }
            room.toFile().delete();
        }
    }

    /** Each call of the face: its name, how many numbers it takes, and whether it can be refused as BAD. */
    private static TreeSet<String> face() throws ReflectiveOperationException {
        TreeSet<String> face = new TreeSet<>();
        for (Method method : LastTongue.class.getDeclaredMethods()) {
            if (Modifier.isPublic(method.getModifiers())) {
                int[] numbers = new int[method.getParameterCount()];
                Arrays.fill(numbers, Integer.MAX_VALUE);
                boolean bad = Picture.call(new LastTongue(), method.getName(), numbers) == LastTongue.BAD;
                face.add(method.getName() + " " + numbers.length + (bad ? " BAD" : ""));
            }
        }
        return face;
    }

    private static TreeSet<String> names(TreeSet<String> face) {
        TreeSet<String> names = new TreeSet<>();
        for (String one : face) {
            names.add(one.substring(0, one.indexOf(' ')));
        }
        return names;
    }

    private static void calls(List<String> lines) throws ReflectiveOperationException {
        TreeSet<String> told = new TreeSet<>();
        for (String line : lines) {
            Matcher call = CALL.matcher(line);
            if (call.matches()) {
                int places = call.group(2).isEmpty() ? 0 : call.group(2).split(", ").length;
                told.add(call.group(1) + " " + places + (call.group(3).startsWith("BAD") ? " BAD" : ""));
            }
        }
        check.same("the page's calls", told.toString(), face().toString());
    }

    private static void howToRunTheTests(List<String> lines) {
        check.holds("the page names the run", block(lines, "```sh").contains(".ci/run"));
        check.holds("the run can be run as it stands there", new File(".ci/run").canExecute());
        TreeSet<String> told = new TreeSet<>();
        for (String line : lines) {
            Matcher test = TEST.matcher(line.startsWith("| ") || line.startsWith("java tools/") ? line : "");
            while (test.find()) {
                told.add(test.group());
            }
        }
        TreeSet<String> there = new TreeSet<>();
        for (String name : new File("src/test/java").list()) {
            if (name.endsWith("Test.java")) {
                there.add(name.substring(0, name.indexOf('.')));
            }
        }
        check.same("the page's tests", told.toString(), there.toString());
        check.holds("the tool that tests the tests", new File("tools/Mutants.java").isFile());
    }
}
