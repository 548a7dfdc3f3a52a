import java.io.ByteArrayOutputStream;
import java.io.PrintStream;
import java.lang.reflect.Method;
import java.lang.reflect.Modifier;
import java.net.URL;
import java.net.URLClassLoader;
import java.nio.file.Files;
import java.nio.file.Path;
import javax.tools.JavaCompiler;
import javax.tools.ToolProvider;

/** README.md says how to use the class, so its program must run and print what README.md tells. */
public final class ReadmeTest {
    private static final Path PLACE = Path.of("build/readme");

    public static void main(String[] args) throws Exception {
        String readme = Files.readString(Path.of("README.md"));
        Check.is("what the program of README.md prints", printed(block(readme, "java")), block(readme, "text"));
        for (Method m : PathTrust.class.getDeclaredMethods()) {
            if (Modifier.isPublic(m.getModifiers())) {
                Check.is("README.md names " + m.getName(), readme.contains("`" + m.getName() + "`"), true);
            }
        }
        Check.end("ReadmeTest");
    }

    private static String block(String readme, String kind) {
        String begin = "\n```" + kind + "\n";
        int from = readme.indexOf(begin) + begin.length();
        return readme.substring(from, readme.indexOf("```\n", from));
    }

    private static String printed(String program) throws Exception {
        Files.createDirectories(PLACE);
        Path file = Files.writeString(PLACE.resolve("Example.java"), program);
        JavaCompiler compiler = ToolProvider.getSystemJavaCompiler();
        int failed = compiler.run(null, null, null, "-d", PLACE.toString(), "-cp", System.getProperty("java.class.path"),
                file.toString());
        Check.is("the program of README.md compiles", failed, 0);
        PrintStream out = System.out;
        ByteArrayOutputStream bytes = new ByteArrayOutputStream();
        try (URLClassLoader loader = new URLClassLoader(new URL[] {PLACE.toUri().toURL()})) {
            Method main = loader.loadClass("Example").getMethod("main", String[].class);
            System.setOut(new PrintStream(bytes, true));
            main.invoke(null, (Object) new String[0]);
        } finally {
            System.setOut(out);
        }
        return bytes.toString().replace(System.lineSeparator(), "\n");
    }
}
