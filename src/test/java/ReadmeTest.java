import java.io.ByteArrayOutputStream;
import java.io.IOException;
import java.io.PrintStream;
import java.net.URL;
import java.net.URLClassLoader;
import java.nio.charset.StandardCharsets;
import java.nio.file.Files;
import java.nio.file.Path;
import java.util.ArrayList;
import java.util.List;
import javax.tools.ToolProvider;

/** The example in README.md compiles, and prints what the comments behind its prints say. */
final class ReadmeTest {
    private static final String PRINTS = "System.out.print";
    private static final String COMMENT = "// ";

    public static void main(String[] args) throws IOException, ReflectiveOperationException {
        List<String> example = javaBlock(Files.readAllLines(Path.of("README.md")));
        List<String> said = said(example);
        Check.due("README.md's example prints something", !said.isEmpty(), true);
        Check.due("README.md's example", String.join("\n  ", printed(example)), String.join("\n  ", said));
        Check.finish();
    }

    private static List<String> javaBlock(List<String> lines) {
        int first = lines.indexOf("```java") + 1;
        int end = first + lines.subList(first, lines.size()).indexOf("```");
        return lines.subList(first, end);
    }

    /** A comment says what is printed; behind a comma it says why. */
    private static List<String> said(List<String> example) {
        List<String> said = new ArrayList<>();
        for (String line : example) {
            int comment = line.indexOf(COMMENT);
            if (line.contains(PRINTS) && comment >= 0) {
                said.add(line.substring(comment + COMMENT.length()).split(",")[0]);
            }
        }
        return said;
    }

    private static List<String> printed(List<String> example) throws IOException, ReflectiveOperationException {
        Path folder = Files.createTempDirectory("readme");
        Path source = folder.resolve("Example.java");
        Path compiled = folder.resolve("Example.class");
        try {
            Files.write(source, example);
            int failed = ToolProvider.getSystemJavaCompiler().run(null, null, null, "--release", "17",
                    "-cp", System.getProperty("java.class.path"), "-d", folder.toString(), source.toString());
            Check.due("compiling README.md's example", failed, 0);
            return failed == 0 ? linesOf(folder) : List.of();
        } finally {
            Files.deleteIfExists(compiled);
            Files.deleteIfExists(source);
            Files.deleteIfExists(folder);
        }
    }

    private static List<String> linesOf(Path folder) throws IOException, ReflectiveOperationException {
        PrintStream console = System.out;
        ByteArrayOutputStream all = new ByteArrayOutputStream();
        try (URLClassLoader loader = new URLClassLoader(new URL[] {folder.toUri().toURL()})) {
            System.setOut(new PrintStream(all, true, StandardCharsets.UTF_8));
            loader.loadClass("Example").getMethod("main", String[].class).invoke(null, (Object) new String[0]);
        } finally {
            System.setOut(console);
        }
        return all.toString(StandardCharsets.UTF_8).lines().map(String::trim).toList();
    }
}
