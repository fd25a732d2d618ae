import java.io.IOException;
import java.lang.reflect.InvocationTargetException;
import java.net.URL;
import java.net.URLClassLoader;
import java.nio.file.Files;
import java.nio.file.Path;
import java.util.regex.Matcher;
import java.util.regex.Pattern;
import javax.tools.ToolProvider;

/** The code of README.md compiles, and each call of it answers what stands beside it there. */
public final class ReadmeTest {
    private static final Kit K = new Kit();
    private static final Pattern TOLD = Pattern.compile("(x\\.\\w+\\(.*\\)); *// (-?\\w+): .*");

    public static void main(String[] args) throws IOException, ReflectiveOperationException {
        int calls = run(program(Files.readString(Path.of("README.md"))));
        K.is("calls with an answer", calls >= 50, true);
        K.close();
    }

    /** Called by the code of the page. */
    public static void answered(String call, long got, long due) {
        K.is(call, got, due);
    }

    public static void answered(String call, boolean got, boolean due) {
        K.is(call, got, due);
    }

    /** Blocks that begin with 'static' are methods; all others are one method's lines. */
    private static String program(String page) {
        StringBuilder methods = new StringBuilder();
        StringBuilder lines = new StringBuilder();
        Matcher block = Pattern.compile("```java\n(.*?)```", Pattern.DOTALL).matcher(page);
        while (block.find()) {
            (block.group(1).startsWith("static") ? methods : lines).append(block.group(1));
        }
        return "public final class ReadmeRun {\n" + methods + "public static int run() {\nint calls = 0;\n"
                + asked(lines.toString()) + "return calls;\n}\n}\n";
    }

    private static String asked(String lines) {
        StringBuilder b = new StringBuilder();
        for (String line : lines.split("\n")) {
            Matcher told = TOLD.matcher(line);
            boolean isTold = told.matches();
            K.is("told beside it: " + line, isTold, line.startsWith("x."));
            b.append(isTold ? "calls++; ReadmeTest.answered(\"" + told.group(1) + "\", " + told.group(1) + ", "
                    + told.group(2) + ");" : line).append('\n');
        }
        return b.toString();
    }

    private static int run(String program) throws IOException, ReflectiveOperationException {
        Path room = Files.createTempDirectory("readme");
        Path file = room.resolve("ReadmeRun.java");
        Files.writeString(file, program);
        int code = ToolProvider.getSystemJavaCompiler().run(null, null, null, "-cp",
                System.getProperty("java.class.path"), "-d", room.toString(), file.toString());
        K.is("it compiles", code, 0);
        int calls = 0;
        if (code == 0) {
            try (URLClassLoader loader = new URLClassLoader(new URL[] {room.toUri().toURL()})) {
                calls = (int) loader.loadClass("ReadmeRun").getMethod("run").invoke(null);
            } catch (InvocationTargetException e) {
                K.is("threw " + e.getCause(), 1, 0);
            }
        }
        Files.deleteIfExists(room.resolve("ReadmeRun.class"));
        Files.deleteIfExists(file);
        Files.deleteIfExists(room);
        return calls;
    }
}
