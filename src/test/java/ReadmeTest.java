import java.io.ByteArrayOutputStream;
import java.io.IOException;
import java.io.PrintStream;
import java.net.URL;
import java.net.URLClassLoader;
import java.nio.file.Files;
import java.nio.file.Path;
import java.util.spi.ToolProvider;

/** The example of README.md compiles, and prints what README.md says. */
public final class ReadmeTest {
    private static final Check check = new Check();

    public static void main(String[] args) throws Exception {
        check.in("README.md");
        String readme = Files.readString(Path.of("README.md"));
        String example = block(readme, "```java\n");
        String want = block(readme, "```text\n");
        check.no("an example and what it prints are missing", example.isEmpty() || want.isEmpty());
        String got = printed(example);
        check.yes("the example printed\n" + got + "due is\n" + want, got.equals(want));
        check.end();
    }

    private static String block(String readme, String opening) {
        int at = readme.indexOf(opening);
        int from = at + opening.length();
        return at < 0 ? "" : readme.substring(from, readme.indexOf("```", from));
    }

    private static String printed(String example) throws Exception {
        Path place = Files.createTempDirectory("readme");
        Path source = place.resolve("Example.java");
        Path compiled = place.resolve("Example.class");
        try {
            Files.writeString(source, "public class Example { public static void main(String[] args) {\n" + example + "}}\n");
            int code = ToolProvider.findFirst("javac").orElseThrow().run(System.out, System.out,
                "-cp", System.getProperty("java.class.path"), "-d", place.toString(), source.toString());
            return code == 0 ? run(place) : "";
        } finally {
            Files.deleteIfExists(compiled);
            Files.deleteIfExists(source);
            Files.delete(place);
        }
    }

    private static String run(Path place) throws IOException, ReflectiveOperationException {
        PrintStream before = System.out;
        ByteArrayOutputStream caught = new ByteArrayOutputStream();
        try (URLClassLoader loader = new URLClassLoader(new URL[] {place.toUri().toURL()})) {
            System.setOut(new PrintStream(caught, true));
            loader.loadClass("Example").getMethod("main", String[].class).invoke(null, (Object) new String[0]);
        } finally {
            System.setOut(before);
        }
        return caught.toString().replace(System.lineSeparator(), "\n");
    }
}
