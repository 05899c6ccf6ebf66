import java.io.ByteArrayOutputStream;
import java.io.IOException;
import java.io.PrintStream;
import java.lang.reflect.InvocationTargetException;
import java.net.URL;
import java.net.URLClassLoader;
import java.nio.charset.StandardCharsets;
import java.nio.file.Files;
import java.nio.file.Path;
import java.util.ArrayList;
import java.util.List;
import java.util.regex.Matcher;
import java.util.regex.Pattern;
import javax.tools.ToolProvider;

/** The program in README.md prints what stands behind // in it. */
public final class ReadmeTest {
    private static final Pattern PROGRAM = Pattern.compile("```java\n(.*?)```", Pattern.DOTALL);
    private static final Pattern PRINTED = Pattern.compile("println\\(.*\\); +// ([^:]+): ");

    private ReadmeTest() {
    }

    public static void main(String[] args) throws IOException, ReflectiveOperationException {
        String readme = Files.readString(Path.of("README.md"), StandardCharsets.UTF_8);
        Matcher program = PROGRAM.matcher(readme);
        Check.due("README.md has a program", program.find(), true);
        List<String> due = new ArrayList<>();
        Matcher printed = PRINTED.matcher(program.group(1));
        while (printed.find()) {
            due.add(printed.group(1));
        }
        Check.due("each line that prints says what", due.size(), program.group(1).split("println", -1).length - 1);
        List<String> got = outputOf(program.group(1)).lines().toList();
        Check.due("README.md says " + due + ", its program " + got, due.equals(got), true);
        Check.finish("ReadmeTest");
    }

    private static String outputOf(String program) throws IOException, ReflectiveOperationException {
        Path room = Files.createTempDirectory("readme");
        Path source = room.resolve("Example.java");
        Path compiled = room.resolve("Example.class");
        PrintStream usual = System.out;
        ByteArrayOutputStream printed = new ByteArrayOutputStream();
        try {
            Files.writeString(source, program);
            int exit = ToolProvider.getSystemJavaCompiler().run(null, null, null, "-cp",
                    System.getProperty("java.class.path"), "-d", room.toString(), source.toString());
            Check.due("it compiles", exit, 0);
            System.setOut(new PrintStream(printed, true));
            try (URLClassLoader loader = new URLClassLoader(new URL[] {room.toUri().toURL()})) {
                loader.loadClass("Example").getMethod("main", String[].class).invoke(null, (Object) new String[0]);
            }
        } catch (InvocationTargetException e) {
            throw new IllegalStateException("README.md's program threw", e.getCause());
        } finally {
            System.setOut(usual);
            Files.deleteIfExists(compiled);
            Files.deleteIfExists(source);
            Files.deleteIfExists(room);
        }
        return printed.toString();
    }
}
