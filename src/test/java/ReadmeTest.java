import java.io.ByteArrayOutputStream;
import java.io.PrintStream;
import java.net.URL;
import java.net.URLClassLoader;
import java.nio.charset.StandardCharsets;
import java.nio.file.Files;
import java.nio.file.Path;
import java.util.Comparator;
import java.util.List;
import java.util.stream.Stream;
import javax.tools.ToolProvider;

/** The example of README.md: it is compiled as it stands there, and prints what stands behind it. */
public final class ReadmeTest {
    private static final String CLASSES = System.getProperty("java.class.path");

    public static void main(String[] args) throws Exception {
        String readme = Files.readString(Path.of("README.md"));
        Check check = new Check();
        Path place = Files.createTempDirectory("readme");
        try {
            Path source = Files.writeString(place.resolve("Example.java"), block(readme, "java"));
            int compiled = ToolProvider.getSystemJavaCompiler().run(null, null, null, "-Xlint:all", "-Werror", "-cp",
                    CLASSES, "-d", place.toString(), source.toString());
            check.same("compiling the example", 0, compiled);
            if (compiled == 0) {
                compare(check, block(readme, "text").lines().toList(), printed(place).lines().toList());
            }
        } finally {
            delete(place);
        }
        check.end();
    }

    /** The first block of a kind, without its fences; none is an empty text, which then fails. */
    private static String block(String readme, String kind) {
        String fence = "```" + kind + "\n";
        int start = readme.indexOf(fence);
        int end = start < 0 ? -1 : readme.indexOf("```", start + fence.length());
        return end < 0 ? "" : readme.substring(start + fence.length(), end);
    }

    private static String printed(Path place) throws Exception {
        PrintStream before = System.out;
        ByteArrayOutputStream bytes = new ByteArrayOutputStream();
        try (URLClassLoader loader = new URLClassLoader(new URL[] {place.toUri().toURL()})) {
            System.setOut(new PrintStream(bytes, true, StandardCharsets.UTF_8));
            loader.loadClass("Example").getMethod("main", String[].class).invoke(null, (Object) new String[0]);
        } finally {
            System.setOut(before);
        }
        return bytes.toString(StandardCharsets.UTF_8);
    }

    private static void compare(Check check, List<String> told, List<String> printed) {
        check.same("lines printed", told.size(), printed.size());
        for (int i = 0; i < Math.min(told.size(), printed.size()); i++) {
            check.same("README.md tells '" + told.get(i) + "', printed is '" + printed.get(i) + "': alike", 1,
                    told.get(i).equals(printed.get(i)) ? 1 : 0);
        }
    }

    private static void delete(Path place) throws Exception {
        try (Stream<Path> files = Files.walk(place)) {
            for (Path file : files.sorted(Comparator.reverseOrder()).toList()) {
                Files.delete(file);
            }
        }
    }
}
