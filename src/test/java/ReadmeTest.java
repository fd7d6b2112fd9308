import java.io.ByteArrayOutputStream;
import java.io.IOException;
import java.io.PrintStream;
import java.net.URL;
import java.net.URLClassLoader;
import java.nio.charset.StandardCharsets;
import java.nio.file.Files;
import java.nio.file.Path;
import java.util.Comparator;
import java.util.List;
import java.util.regex.Matcher;
import java.util.regex.Pattern;
import java.util.stream.Stream;
import javax.tools.ToolProvider;

/** The program that README.md shows prints what README.md says. */
public final class ReadmeTest {
    private static final Path README = Path.of("README.md");

    public static void main(String[] args) throws IOException, ReflectiveOperationException {
        String readme = Files.readString(README);
        String due = block(readme, "text");
        Path directory = Files.createTempDirectory("readme");
        String told;
        try {
            told = printed(block(readme, "java"), directory);
        } finally {
            remove(directory);
        }
        boolean same = !due.isEmpty() && told.equals(due);
        System.out.println(same ? "ReadmeTest: it prints what is written" : "ReadmeTest: it prints\n" + told);
        System.exit(same ? 0 : 1);
    }

    private static String block(String readme, String kind) {
        Matcher block = Pattern.compile("```" + kind + "\\n(.*?)```", Pattern.DOTALL).matcher(readme);
        return block.find() ? block.group(1) : "";
    }

    private static String printed(String program, Path directory) throws IOException, ReflectiveOperationException {
        Path source = directory.resolve("Example.java");
        Files.writeString(source, program);
        int failed = ToolProvider.getSystemJavaCompiler().run(null, null, null,
                "-d", directory.toString(), "src/main/java/ToolPlex.java", source.toString());
        if (failed != 0) {
            return "nothing, as it can't be compiled\n";
        }
        PrintStream before = System.out;
        ByteArrayOutputStream printed = new ByteArrayOutputStream();
        try (URLClassLoader loader = new URLClassLoader(new URL[] {directory.toUri().toURL()}, null)) {
            System.setOut(new PrintStream(printed, true, StandardCharsets.UTF_8));
            Object arguments = new String[0];
            loader.loadClass("Example").getMethod("main", String[].class).invoke(null, arguments);
        } finally {
            System.setOut(before);
        }
        return printed.toString(StandardCharsets.UTF_8).replace(System.lineSeparator(), "\n");
    }

    private static void remove(Path directory) throws IOException {
        List<Path> all;
        try (Stream<Path> walk = Files.walk(directory)) {
            all = walk.sorted(Comparator.reverseOrder()).toList();
        }
        for (Path path : all) {
            Files.delete(path);
        }
    }
}
