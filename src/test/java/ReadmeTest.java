import java.io.ByteArrayOutputStream;
import java.io.IOException;
import java.io.PrintStream;
import java.lang.reflect.InvocationTargetException;
import java.net.URL;
import java.net.URLClassLoader;
import java.nio.file.Files;
import java.nio.file.Path;
import java.util.List;

/** README.md's example is a program that does what its comments say. */
public final class ReadmeTest {
    private static final String FENCE = "```";

    public static void main(String[] args) throws Exception {
        Path out = Files.createTempDirectory("readme");
        try {
            Due.is("the example compiles", compile(out, example()), true);
            Due.is("what the example prints", run(out), "331\r\n230\r\n257 /\r\n4 65 66 67 68 69");
        } finally {
            for (String file : List.of("Example.java", "Example.class", "")) {
                Files.deleteIfExists(out.resolve(file));
            }
        }
        Due.end();
    }

    private static String example() throws IOException {
        String text = Files.readString(Path.of("README.md"));
        int begin = text.indexOf(FENCE + "java") + FENCE.length() + "java".length();
        return text.substring(begin, text.indexOf(FENCE, begin));
    }

    private static boolean compile(Path out, String example) throws IOException, InterruptedException {
        String shown = "System.out.print(next); for (int k = 0; k < 5; k++) System.out.print(\" \" + parcel.content(1, k));";
        Path file = out.resolve("Example.java");
        Files.writeString(file, "public class Example { public static void main(String[] args) {" + example + shown + "} }");
        String classes = System.getProperty("java.class.path");
        Process javac = new ProcessBuilder("javac", "-cp", classes, "-d", out.toString(), file.toString()).inheritIO().start();
        return javac.waitFor() == 0;
    }

    private static String run(Path out) throws IOException, ReflectiveOperationException {
        PrintStream before = System.out;
        ByteArrayOutputStream printed = new ByteArrayOutputStream();
        try (URLClassLoader loader = new URLClassLoader(new URL[] {out.toUri().toURL()})) {
            System.setOut(new PrintStream(printed, true));
            loader.loadClass("Example").getMethod("main", String[].class).invoke(null, (Object) new String[0]);
        } catch (InvocationTargetException e) {
            return "it throws " + e.getCause();
        } finally {
            System.setOut(before);
        }
        return printed.toString();
    }
}
