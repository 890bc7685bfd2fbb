import java.io.ByteArrayOutputStream;
import java.io.IOException;
import java.io.InputStream;
import java.lang.reflect.Method;
import java.lang.reflect.Modifier;
import java.nio.file.Files;
import java.nio.file.Path;
import java.util.Comparator;
import java.util.List;
import java.util.stream.Stream;
import javax.tools.JavaCompiler;
import javax.tools.ToolProvider;

/** What README.md says has to hold: its example prints what it says, and it names all calls. Run from the project's folder. */
public final class ReadmeTest {
    public static void main(String[] args) throws IOException, InterruptedException {
        String text = Files.readString(Path.of("README.md"));
        calls(text);
        Path folder = Files.createTempDirectory("readme");
        try {
            example(folder, block(text, "java"), block(text, "text"));
        } finally {
            remove(folder);
        }
        Expect.finish("ReadmeTest");
    }

    private static void calls(String text) {
        for (Method method : ReviewForge.class.getDeclaredMethods()) {
            if (Modifier.isPublic(method.getModifiers())) {
                Expect.due(1, "the README names " + method.getName(), text.contains("`" + method.getName() + "`"), true);
            }
        }
    }

    private static String block(String text, String kind) {
        String begin = "\n```" + kind + "\n";
        int from = text.indexOf(begin);
        int to = from < 0 ? -1 : text.indexOf("\n```\n", from + begin.length());
        Expect.due(1, "the README has a block of " + kind, to > 0, true);
        return to > 0 ? text.substring(from + begin.length(), to) : "";
    }

    private static void example(Path folder, String program, String printed) throws IOException, InterruptedException {
        Path file = Files.writeString(folder.resolve("Example.java"), program);
        JavaCompiler compiler = ToolProvider.getSystemJavaCompiler();
        ByteArrayOutputStream faults = new ByteArrayOutputStream();
        int code = compiler.run(InputStream.nullInputStream(), faults, faults, "-d", folder.toString(), file.toString(),
                "src/main/java/ReviewForge.java");
        Expect.due(1, "compiling the example: " + faults, code, 0);
        Process process = new ProcessBuilder(List.of(Path.of(System.getProperty("java.home"), "bin", "java").toString(),
                "-cp", folder.toString(), "Example")).redirectErrorStream(true).start();
        String got = new String(process.getInputStream().readAllBytes());
        Expect.due(1, "the example's exit code", process.waitFor(), 0);
        Expect.due(1, "the example", got.strip().lines().toList().toString(), printed.lines().toList().toString());
    }

    private static void remove(Path folder) throws IOException {
        try (Stream<Path> files = Files.walk(folder)) {
            for (Path file : files.sorted(Comparator.reverseOrder()).toList()) {
                Files.delete(file);
            }
        }
    }
}
