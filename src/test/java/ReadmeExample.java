import java.io.ByteArrayOutputStream;
import java.io.File;
import java.io.PrintStream;
import java.lang.reflect.Method;
import java.lang.reflect.Modifier;
import java.net.URL;
import java.net.URLClassLoader;
import java.nio.charset.StandardCharsets;
import java.nio.file.Files;
import java.nio.file.Path;
import java.util.regex.Matcher;
import java.util.regex.Pattern;
import java.util.stream.Stream;
import javax.tools.ToolProvider;

/** What README.md shows is what the class answers: its example is compiled and run. */
public final class ReadmeExample {
    private static final Path README = Path.of("README.md");
    // A call, and the answer at the beginning of its comment.
    private static final Pattern ANSWERED = Pattern.compile("(x\\.\\w+\\(.*\\));\\s*// (-?\\d+|true|false): .*");

    private static int wrong = 0;
    private static int answers = 0;

    public static void main(String[] args) throws Exception {
        String readme = Files.readString(README);
        String example = block(readme, "java");
        namesAllCalls(readme, example);
        String printed = printedBy(example);
        check("the example prints", printed, block(readme.substring(readme.indexOf(example)), "text"));
        check("lines with an answer", answers, answeredLines(example));
        System.out.println(wrong == 0 ? "the example answers as README.md says" : wrong + " things of README.md are wrong");
        if (wrong != 0) {
            System.exit(1);
        }
    }

    /** The example calls it; public, since another loader has the example. */
    public static void due(String call, Object got, Object want) {
        answers++;
        check(call, got, want);
    }

    private static void check(String what, Object got, Object want) {
        if (!got.equals(want)) {
            wrong++;
            System.err.println("README.md: " + what + ": it is " + got + ", README.md has " + want);
        }
    }

    /** The first block of a kind, empty when there is none. */
    private static String block(String readme, String kind) {
        Matcher matcher = Pattern.compile("(?s)```" + kind + "\n(.*?)```").matcher(readme);
        boolean found = matcher.find();
        check("it has a block of " + kind, found, true);
        return found ? matcher.group(1) : "";
    }

    private static void namesAllCalls(String readme, String example) {
        for (Method method : InterlockTables.class.getDeclaredMethods()) {
            if (Modifier.isPublic(method.getModifiers())) {
                String name = method.getName();
                check("it tells of " + name, readme.contains("| `" + name + "("), true);
                check("its example calls " + name, example.contains("x." + name + "("), true);
            }
        }
    }

    private static int answeredLines(String example) {
        int count = 0;
        for (String line : example.split("\n")) {
            count += line.contains("//") ? 1 : 0;
        }
        return count;
    }

    private static String source(String example) {
        StringBuilder all = new StringBuilder("public class Example {\npublic static void run() {\n");
        for (String line : example.split("\n")) {
            Matcher answered = ANSWERED.matcher(line);
            if (answered.matches()) {
                String call = answered.group(1);
                all.append("ReadmeExample.due(\"").append(call).append("\", ").append(call).append(", ")
                    .append(answered.group(2)).append(");\n");
            } else {
                all.append(line).append('\n');
            }
        }
        return all.append("}\n}\n").toString();
    }

    private static String printedBy(String example) throws Exception {
        Path room = Files.createTempDirectory("readme");
        try {
            Path file = room.resolve("Example.java");
            Files.writeString(file, source(example));
            int failed = ToolProvider.getSystemJavaCompiler().run(null, null, null,
                "-cp", System.getProperty("java.class.path"), "-d", room.toString(), file.toString());
            check("the example's errors", failed, 0);
            return failed == 0 ? run(room) : "";
        } finally {
            try (Stream<Path> files = Files.list(room)) {
                files.map(Path::toFile).forEach(File::delete);
            }
            Files.delete(room);
        }
    }

    private static String run(Path room) throws Exception {
        PrintStream before = System.out;
        ByteArrayOutputStream printed = new ByteArrayOutputStream();
        try (URLClassLoader loader = new URLClassLoader(new URL[] {room.toUri().toURL()})) {
            Class<?> example = loader.loadClass("Example");
            System.setOut(new PrintStream(printed, true, StandardCharsets.US_ASCII));
            example.getMethod("run").invoke(null);
        } finally {
            System.setOut(before);
        }
        return printed.toString(StandardCharsets.US_ASCII);
    }
}
