import java.io.IOException;
import java.lang.reflect.Method;
import java.lang.reflect.Modifier;
import java.net.URL;
import java.net.URLClassLoader;
import java.nio.file.Files;
import java.nio.file.Path;
import java.util.ArrayList;
import java.util.List;
import java.util.regex.Matcher;
import java.util.regex.Pattern;
import javax.tools.ToolProvider;

/**
 * README.md names every call, and its examples do what they say: each Java block is compiled, and a
 * line of it whose remark begins with a number, true or false must answer that.
 */
public final class ReadmeTest {
    private static final Pattern BLOCK = Pattern.compile("(?s)```java\n(.*?)```");
    private static final Pattern CALL = Pattern.compile("(?:int (\\w+) = )?(.+);\\s+// (-?\\d+|true|false)\\b.*");

    private static final Check CHECK = new Check();

    private static void callsAreNamed(String readme) {
        for (Method method : OutlineDesk.class.getDeclaredMethods()) {
            if (Modifier.isPublic(method.getModifiers()) && !readme.contains("`" + method.getName() + "(")) {
                CHECK.fault("README.md does not tell of " + method.getName());
            }
        }
    }

    /** The answers of a block's lines, each behind what is due, as a program that hands them out. */
    private static String program(String name, List<String> lines) {
        StringBuilder text = new StringBuilder("public final class " + name + " {\n"
                + "    public static java.util.List<String> answers() {\n"
                + "        java.util.List<String> answers = new java.util.ArrayList<>();\n");
        for (String line : lines) {
            Matcher call = CALL.matcher(line);
            if (!call.matches()) {
                text.append(line).append('\n');
            } else if (call.group(1) == null) {
                text.append("answers.add(\"\" + ").append(call.group(2)).append(");\n");
            } else {
                text.append(line).append("\nanswers.add(\"\" + ").append(call.group(1)).append(");\n");
            }
        }
        return text.append("        return answers;\n    }\n}\n").toString();
    }

    private static List<?> answers(String name, List<String> lines) throws IOException, ReflectiveOperationException {
        Path folder = Files.createTempDirectory("readme");
        folder.toFile().deleteOnExit();
        Path source = folder.resolve(name + ".java");
        Files.writeString(source, program(name, lines));
        source.toFile().deleteOnExit();
        folder.resolve(name + ".class").toFile().deleteOnExit();
        int code = ToolProvider.getSystemJavaCompiler().run(null, null, null, "-cp",
                System.getProperty("java.class.path"), "-d", folder.toString(), source.toString());
        if (code != 0) {
            CHECK.fault("README.md: " + name + " does not compile");
            return List.of();
        }
        try (URLClassLoader loader = new URLClassLoader(new URL[] {folder.toUri().toURL()})) {
            return (List<?>) loader.loadClass(name).getMethod("answers").invoke(null);
        }
    }

    private static void example(String name, String block) throws IOException, ReflectiveOperationException {
        List<String> lines = block.lines().toList();
        List<String> due = new ArrayList<>();
        for (String line : lines) {
            Matcher call = CALL.matcher(line);
            if (call.matches()) {
                due.add(call.group(3));
            }
        }
        CHECK.due("README.md: " + name, answers(name, lines).toString(), due.toString());
    }

    public static void main(String[] args) throws IOException, ReflectiveOperationException {
        String readme = Files.readString(Path.of("README.md"));
        callsAreNamed(readme);
        Matcher blocks = BLOCK.matcher(readme);
        int count = 0;
        while (blocks.find()) {
            count++;
            example("Example" + count, blocks.group(1));
        }
        CHECK.due("README.md has examples", count > 0 ? 1 : 0, 1);
        CHECK.end("ReadmeTest");
    }
}
