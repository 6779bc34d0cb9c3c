import java.io.IOException;
import java.lang.reflect.Method;
import java.lang.reflect.Modifier;
import java.net.URL;
import java.net.URLClassLoader;
import java.nio.file.Files;
import java.nio.file.Path;
import java.util.ArrayList;
import java.util.Iterator;
import java.util.List;
import java.util.function.BiConsumer;
import java.util.regex.Matcher;
import java.util.regex.Pattern;
import javax.tools.ToolProvider;

/**
 * The calls that README.md shows, with the answers that it tells of them. Its blocks of Java are compiled as they stand
 * there, so that nobody has to write the same calls down a second time.
 */
public final class ReadmeTest {
    private static final Path README = Path.of("README.md");
    private static final Pattern BLOCK = Pattern.compile("(?s)```java\n(.*?)```");
    private static final Pattern ANSWERED =
            Pattern.compile("\\s*(?:int (\\w+) = )?(x\\.\\w+\\(.*\\));\\s*// (true|false|-?\\d+|Long\\.MIN_VALUE)(:.*)?");
    private static final int CALLS_OF_AN_OBJECT = 512;

    private static final List<String> calls = new ArrayList<>();
    private static final List<Long> answers = new ArrayList<>();

    private ReadmeTest() {
    }

    private static List<String> blocks(String readme) {
        List<String> blocks = new ArrayList<>();
        Matcher matcher = BLOCK.matcher(readme);
        while (matcher.find()) {
            blocks.add(matcher.group(1));
        }
        return blocks;
    }

    private static long numberOf(String answer) {
        switch (answer) {
            case "true":
                return 1;
            case "false":
                return 0;
            case "Long.MIN_VALUE":
                return Long.MIN_VALUE;
            default:
                return Long.parseLong(answer);
        }
    }

    private static long numberOf(Object answer) {
        return answer instanceof Boolean truth ? (truth ? 1 : 0) : ((Number) answer).longValue();
    }

    /** A line of the page, made to tell its answer; a call without one would be shown but not tested. */
    private static String telling(String line) {
        Matcher matcher = ANSWERED.matcher(line);
        if (!matcher.matches()) {
            Kit.due("an answer stands behind " + line, line.matches("(\\s*|.*\\b)x\\..*"), false);
            return line;
        }
        String name = matcher.group(1);
        String call = matcher.group(2);
        calls.add(call);
        answers.add(numberOf(matcher.group(3)));
        if (name == null) {
            return "told.accept(\"" + call + "\", " + call + ");";
        }
        return "int " + name + " = " + call + "; told.accept(\"" + call + "\", " + name + ");";
    }

    private static String program(List<String> blocks) {
        StringBuilder methods = new StringBuilder();
        StringBuilder lines = new StringBuilder();
        for (String block : blocks) {
            if (block.startsWith("static ")) {
                methods.append(block);
            } else {
                block.lines().forEach(line -> lines.append(telling(line)).append('\n'));
            }
        }
        return "public final class ReadmeCalls {\n" + methods
                + "public static void run(java.util.function.BiConsumer<String, Object> told) {\n" + lines + "}\n}\n";
    }

    private static void runProgram(String program) throws IOException, ReflectiveOperationException {
        Path directory = Files.createTempDirectory("readme");
        Path source = directory.resolve("ReadmeCalls.java");
        Path compiled = directory.resolve("ReadmeCalls.class");
        Files.writeString(source, program);
        try {
            int failed = ToolProvider.getSystemJavaCompiler().run(null, null, null,
                    "-cp", System.getProperty("java.class.path"), "-d", directory.toString(), source.toString());
            Kit.due("the page's calls can be compiled", failed, 0);
            if (failed != 0) {
                return;
            }
            try (URLClassLoader loader = new URLClassLoader(new URL[] {directory.toUri().toURL()})) {
                Iterator<Long> due = answers.iterator();
                BiConsumer<String, Object> told =
                        (call, answer) -> Kit.due(call + " of README.md", numberOf(answer), due.next());
                loader.loadClass("ReadmeCalls").getMethod("run", BiConsumer.class).invoke(null, told);
                Kit.due("all calls were made", due.hasNext(), false);
            }
        } finally {
            Files.deleteIfExists(compiled);
            Files.deleteIfExists(source);
            Files.deleteIfExists(directory);
        }
    }

    private static void shownCalls(String readme) throws IOException, ReflectiveOperationException {
        runProgram(program(blocks(readme)));
        Kit.due("calls on one object", calls.size() < CALLS_OF_AN_OBJECT / 2, true);
        for (Method method : BeeRegister.class.getDeclaredMethods()) {
            if (Modifier.isPublic(method.getModifiers())) {
                boolean shown = calls.stream().anyMatch(call -> call.startsWith("x." + method.getName() + "("));
                Kit.due("README.md shows " + method.getName(), shown, true);
            }
        }
    }

    public static void main(String[] args) throws IOException, ReflectiveOperationException {
        String readme = Files.readString(README);
        shownCalls(readme);
        ReadmeChoices.run(readme);
        Kit.finish();
    }
}
