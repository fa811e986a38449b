import java.io.ByteArrayOutputStream;
import java.io.IOException;
import java.io.InputStream;
import java.io.PrintStream;
import java.nio.charset.StandardCharsets;
import java.nio.file.Files;
import java.nio.file.Path;
import java.util.regex.Matcher;
import java.util.regex.Pattern;
import javax.tools.JavaCompiler;
import javax.tools.ToolProvider;

/** README.md's example compiles, and prints what README.md says that it prints. */
public final class ReadmeTest {
    private ReadmeTest() {
    }

    public static void main(String[] args) throws IOException, InterruptedException {
        String readme = Files.readString(Path.of("README.md"));
        String printed = run(block(readme, "java"));
        String due = block(readme, "text");
        if (!printed.equals(due)) {
            System.out.println("README.md's example prints\n" + printed + "and README.md says\n" + due);
            System.exit(1);
        }
        System.out.println("ReadmeTest: the example prints what README.md says");
    }

    private static String block(String readme, String kind) {
        Matcher m = Pattern.compile("(?s)```" + kind + "\n(.*?)```").matcher(readme);
        if (!m.find()) {
            System.out.println("README.md has no block of " + kind);
            System.exit(1);
        }
        return m.group(1);
    }

    private static String run(String program) throws IOException, InterruptedException {
        Path directory = Files.createTempDirectory("readme");
        Path source = directory.resolve("Example.java");
        Path compiled = directory.resolve("Example.class");
        try {
            Files.writeString(source, program);
            JavaCompiler compiler = ToolProvider.getSystemJavaCompiler();
            String path = System.getProperty("java.class.path");
            if (compiler.run(null, null, null, "-cp", path, "-d", directory.toString(), source.toString()) != 0) {
                System.out.println("README.md's example does not compile");
                System.exit(1);
            }
            return printedBy(path, directory);
        } finally {
            Files.deleteIfExists(source);
            Files.deleteIfExists(compiled);
            Files.deleteIfExists(directory);
        }
    }

    private static String printedBy(String path, Path directory) throws IOException, InterruptedException {
        Path java = Path.of(System.getProperty("java.home"), "bin", "java");
        String both = path + System.getProperty("path.separator") + directory;
        Process process = new ProcessBuilder(java.toString(), "-cp", both, "Example").redirectErrorStream(true).start();
        try (InputStream in = process.getInputStream()) {
            ByteArrayOutputStream bytes = new ByteArrayOutputStream();
            in.transferTo(new PrintStream(bytes, true, StandardCharsets.UTF_8));
            process.waitFor();
            return bytes.toString(StandardCharsets.UTF_8);
        }
    }
}
