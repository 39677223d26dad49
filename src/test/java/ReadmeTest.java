import java.io.ByteArrayOutputStream;
import java.io.File;
import java.io.IOException;
import java.io.PrintStream;
import java.lang.reflect.Method;
import java.lang.reflect.Modifier;
import java.net.URL;
import java.net.URLClassLoader;
import java.nio.charset.StandardCharsets;
import java.nio.file.Files;
import java.nio.file.Path;
import java.util.Set;
import java.util.TreeSet;
import java.util.regex.Matcher;
import java.util.regex.Pattern;
import javax.tools.ToolProvider;

/** README.md: its example prints what README.md says, it names every call, and it lists every test. */
public final class ReadmeTest {
    private static final Path BUILT = Path.of("build", "readme");

    public static void main(String[] args) throws IOException, ReflectiveOperationException {
        String readme = Files.readString(Path.of("README.md"));
        examplePrints(blockOf(readme, "java"), blockOf(readme, "text"));
        everyCallIsNamed(readme);
        everyTestIsListed(readme);
        Due.end();
    }

    /** The first block of this language; none would be a fault of README.md. */
    private static String blockOf(String readme, String language) {
        Matcher block = Pattern.compile("(?s)\n```" + language + "\n(.*?)```\n").matcher(readme);
        boolean found = block.find();
        Due.due("README.md has a block of " + language + " (1)", found ? 1 : 0, 1);
        return found ? block.group(1) : "";
    }

    private static void examplePrints(String example, String wanted) throws IOException, ReflectiveOperationException {
        Files.createDirectories(BUILT);
        Path source = BUILT.resolve("Example.java");
        Files.writeString(source, example);
        int failed = ToolProvider.getSystemJavaCompiler().run(null, null, null, "-cp",
            System.getProperty("java.class.path"), "-d", BUILT.toString(), source.toString());
        Due.due("the example compiles (0)", failed, 0);
        if (failed != 0) {
            return;
        }
        String[] want = wanted.split("\n");
        String[] got = printed().split("\\R");
        Due.due("lines that the example prints", got.length, want.length);
        for (int i = 0; i < Math.min(got.length, want.length); i++) {
            Due.due("\"" + got[i] + "\" is \"" + want[i] + "\" (1)", got[i].equals(want[i]) ? 1 : 0, 1);
        }
    }

    private static String printed() throws IOException, ReflectiveOperationException {
        PrintStream out = System.out;
        ByteArrayOutputStream caught = new ByteArrayOutputStream();
        try (URLClassLoader loader = new URLClassLoader(new URL[] {BUILT.toUri().toURL()})) {
            Method main = loader.loadClass("Example").getMethod("main", String[].class);
            System.setOut(new PrintStream(caught, true, StandardCharsets.UTF_8));
            main.invoke(null, (Object) new String[0]);
        } finally {
            System.setOut(out);
        }
        return caught.toString(StandardCharsets.UTF_8);
    }

    private static void everyCallIsNamed(String readme) {
        for (Method method : SumSmith.class.getDeclaredMethods()) {
            if (Modifier.isPublic(method.getModifiers())) {
                String name = method.getName();
                Due.due("README.md names " + name + " (1)", readme.contains("`" + name + "`") ? 1 : 0, 1);
            }
        }
    }

    private static void everyTestIsListed(String readme) {
        Set<String> listed = new TreeSet<>();
        Matcher line = Pattern.compile("\n\\| `(\\w+Test)` \\|").matcher(readme);
        while (line.find()) {
            listed.add(line.group(1));
        }
        Set<String> tests = new TreeSet<>();
        for (String file : filesOf("src/test/java")) {
            if (file.endsWith("Test.java")) {
                tests.add(file.substring(0, file.length() - ".java".length()));
            }
        }
        Due.due("README.md lists " + tests + ": " + listed + " (1)", listed.equals(tests) ? 1 : 0, 1);
    }

    private static String[] filesOf(String directory) {
        String[] files = new File(directory).list();
        return files == null ? new String[0] : files;
    }
}
