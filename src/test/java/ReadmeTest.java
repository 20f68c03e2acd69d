import java.io.ByteArrayOutputStream;
import java.io.IOException;
import java.io.PrintStream;
import java.lang.reflect.InvocationTargetException;
import java.net.URL;
import java.net.URLClassLoader;
import java.nio.charset.StandardCharsets;
import java.nio.file.Files;
import java.nio.file.Path;
import java.util.ArrayList;
import java.util.List;
import javax.tools.JavaCompiler;
import javax.tools.ToolProvider;

/** The example of README.md compiles as it stands there, and prints what stands there; run from the project's root. */
public final class ReadmeTest {
    private static final String FENCE = "```";

    public static void main(String[] args) throws Exception {
        List<String> page = Files.readAllLines(Path.of("README.md"));
        List<String> example = block(page, "java");
        List<String> due = block(page, "text");
        Path place = Files.createTempDirectory("readme");
        boolean isFine;
        try {
            isFine = compile(place, example) && isSame(due, printed(place));
        } finally {
            remove(place);
        }
        if (!isFine) {
            System.exit(1);
        }
    }

    /** The lines of the one block of that kind; none or several are not what README.md should have. */
    private static List<String> block(List<String> page, String kind) {
        int start = page.indexOf(FENCE + kind);
        if (start < 0 || start != page.lastIndexOf(FENCE + kind)) {
            throw new IllegalStateException("README.md has no block, or several ones, of " + kind);
        }
        int end = start + 1;
        while (!page.get(end).equals(FENCE)) {
            end++;
        }
        if (end == start + 1) {
            throw new IllegalStateException("the block of " + kind + " is empty");
        }
        return page.subList(start + 1, end);
    }

    private static boolean compile(Path place, List<String> example) throws IOException {
        Path source = place.resolve("Example.java");
        Files.write(source, example);
        JavaCompiler compiler = ToolProvider.getSystemJavaCompiler();
        String classes = System.getProperty("java.class.path");
        int result = compiler.run(null, System.out, System.out, "-Xlint:all", "-Werror", "-encoding", "UTF-8",
                "-cp", classes, "-d", place.toString(), source.toString());
        return result == 0;
    }

    private static List<String> printed(Path place) throws Exception {
        ByteArrayOutputStream bytes = new ByteArrayOutputStream();
        PrintStream before = System.out;
        String thrown = "";
        URL[] where = {place.toUri().toURL()};
        try (URLClassLoader loader = new URLClassLoader(where, ReadmeTest.class.getClassLoader());
                PrintStream caught = new PrintStream(bytes, true, StandardCharsets.UTF_8)) {
            System.setOut(caught);
            loader.loadClass("Example").getMethod("main", String[].class).invoke(null, (Object) new String[0]);
        } catch (InvocationTargetException e) {
            thrown = "the exception " + e.getCause();
        } finally {
            System.setOut(before);
        }
        return (bytes.toString(StandardCharsets.UTF_8) + thrown).lines().toList();
    }

    private static boolean isSame(List<String> due, List<String> got) {
        List<String> wrong = new ArrayList<>();
        for (int k = 0; k < Math.max(due.size(), got.size()); k++) {
            String want = k < due.size() ? due.get(k) : "nothing";
            String is = k < got.size() ? got.get(k) : "nothing";
            if (!want.equals(is)) {
                wrong.add("the example prints: " + is + "; README.md says: " + want);
            }
        }
        wrong.forEach(System.out::println);
        return wrong.isEmpty();
    }

    private static void remove(Path place) throws IOException {
        try (var files = Files.list(place)) {
            for (Path file : files.toList()) {
                Files.delete(file);
            }
        }
        Files.delete(place);
    }
}
