import java.io.IOException;
import java.net.URL;
import java.net.URLClassLoader;
import java.nio.file.DirectoryStream;
import java.nio.file.Files;
import java.nio.file.Path;
import java.util.List;
import java.util.Set;
import java.util.TreeSet;
import java.util.function.BiConsumer;
import java.util.regex.Matcher;
import java.util.regex.Pattern;
import javax.tools.ToolProvider;

/**
 * Whether README.md is as the class answers: its pieces of Java are put together to one program, in which each call that
 * has a comment behind it must answer what the comment begins with. And whether its table names each test.
 */
public final class ReadmeTest {
    private static final Pattern PIECE = Pattern.compile("```java\n(.*?)```", Pattern.DOTALL);
    private static final Pattern CALL = Pattern.compile("(.*?);\\s+// (true|false|-?[0-9]+)(: .*)?");
    private static final Path PLACE = Path.of("build", "ci", "readme");

    public static void main(String[] args) throws IOException, ReflectiveOperationException {
        String readme = Files.readString(Path.of("README.md"));
        run(program(readme));
        for (String call : calls()) Check.due("README.md names " + call, readme.contains(call), true);
        Check.due("the tests in the table", named(readme).equals(tests()), true);
        if (!named(readme).equals(tests())) System.out.println("  named: " + named(readme) + "\n  there: " + tests());
        Check.end("ReadmeTest");
    }

    /** What anybody must know of to use the class at all. */
    private static List<String> calls() {
        return List.of("new ShearHedge()", ".feed(", ".hedge(", ".seasons(", ".live(", ".status()", ".top()", ".bottom()", ".fault(",
            "ShearHedge.NONE", "sh .ci/run");
    }

    private static String program(String readme) {
        StringBuilder members = new StringBuilder();
        StringBuilder lines = new StringBuilder();
        Matcher piece = PIECE.matcher(readme);
        while (piece.find()) {
            if (piece.group(1).contains("static ")) members.append(piece.group(1));
            else for (String line : piece.group(1).split("\n")) lines.append(looked(line)).append('\n');
        }
        return "public final class Readme {\n" + members
            + "private static java.util.function.BiConsumer<String, String[]> due;\n"
            + "private static void due(String call, Object got, Object want) { due.accept(call, new String[] {got.toString(), want.toString()}); }\n"
            + "public static void run(java.util.function.BiConsumer<String, String[]> told) {\ndue = told;\n" + lines + "}\n}\n";
    }

    private static String looked(String line) {
        Matcher call = CALL.matcher(line);
        if (!call.matches()) return line;
        String name = call.group(1).replace("\\", "\\\\").replace("\"", "\\\"");
        return "due(\"README.md: " + name + "\", " + call.group(1) + ", " + call.group(2) + ");";
    }

    private static void run(String program) throws IOException, ReflectiveOperationException {
        Files.createDirectories(PLACE);
        Path source = PLACE.resolve("Readme.java");
        Files.writeString(source, program);
        int code = ToolProvider.getSystemJavaCompiler().run(null, null, null, "-proc:none", "-cp", System.getProperty("java.class.path"),
            "-d", PLACE.toString(), source.toString());
        Check.due("README.md compiles", code, 0);
        if (code != 0) return;
        int[] looked = new int[1];
        BiConsumer<String, String[]> due = (call, both) -> {
            looked[0]++;
            boolean same = both[0].equals(both[1]);
            Check.due(call, same, true);
            if (!same) System.out.println("  answered " + both[0] + ", README.md says " + both[1]);
        };
        try (URLClassLoader loader = new URLClassLoader(new URL[] {PLACE.toUri().toURL()})) {
            loader.loadClass("Readme").getMethod("run", BiConsumer.class).invoke(null, due);
        }
        Check.due("many answers in README.md: " + looked[0], looked[0] > 60, true);
    }

    private static Set<String> named(String readme) {
        Set<String> names = new TreeSet<>();
        for (String line : readme.split("\n")) {
            Matcher name = Pattern.compile("[A-Za-z]+Test\\b").matcher(line.replaceFirst("^(\\|[^|]*\\|).*", "$1"));
            while (line.startsWith("|") && name.find()) names.add(name.group());
        }
        return names;
    }

    private static Set<String> tests() throws IOException {
        Set<String> names = new TreeSet<>();
        try (DirectoryStream<Path> files = Files.newDirectoryStream(Path.of("src", "test", "java"), "*Test.java")) {
            for (Path file : files) names.add(file.getFileName().toString().replace(".java", ""));
        }
        return names;
    }
}
