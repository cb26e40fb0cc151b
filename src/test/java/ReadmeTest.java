import java.io.ByteArrayOutputStream;
import java.io.PrintStream;
import java.lang.reflect.Method;
import java.lang.reflect.Modifier;
import java.net.URL;
import java.net.URLClassLoader;
import java.nio.charset.StandardCharsets;
import java.nio.file.Files;
import java.nio.file.Path;
import java.util.Set;
import java.util.TreeSet;
import java.util.regex.Matcher;
import java.util.regex.Pattern;
import javax.tools.ToolProvider;

/** What README.md says of the use: its example prints what stands below it, its table names every call once. */
public final class ReadmeTest {
    public static void main(String[] args) throws Exception {
        String readme = Files.readString(Path.of("README.md"));
        example(block(readme, "java"), block(readme, "text"));
        table(readme);
        Checks.finish();
    }

    private static String block(String readme, String sort) {
        Matcher found = Pattern.compile("(?s)```" + sort + "\n(.*?)```").matcher(readme);
        return found.find() ? found.group(1) : "";
    }

    private static void example(String program, String printed) throws Exception {
        Path directory = Files.createTempDirectory("readme");
        Path file = Files.writeString(directory.resolve("Example.java"), program);
        int failed = ToolProvider.getSystemJavaCompiler().run(null, null, null, "-cp",
                System.getProperty("java.class.path"), "-d", directory.toString(), file.toString());
        Checks.due("the example compiles", failed, 0);
        String got = failed == 0 ? run(directory) : "";
        Checks.due("the example printed\n" + got + "which", got.equals(printed), true);
        for (String name : new String[] {"Example.java", "Example.class", ""}) {
            Files.deleteIfExists(directory.resolve(name));
        }
    }

    private static String run(Path directory) throws Exception {
        PrintStream before = System.out;
        ByteArrayOutputStream bytes = new ByteArrayOutputStream();
        try (URLClassLoader loader = new URLClassLoader(new URL[] {directory.toUri().toURL()})) {
            Method main = loader.loadClass("Example").getMethod("main", String[].class);
            System.setOut(new PrintStream(bytes, true));
            main.invoke(null, (Object) new String[0]);
        } finally {
            System.setOut(before);
        }
        return bytes.toString(StandardCharsets.UTF_8).replace("\r\n", "\n");
    }

    private static void table(String readme) {
        Set<String> named = new TreeSet<>();
        for (String line : readme.split("\n")) {
            Matcher call = Pattern.compile("`(\\w+)`").matcher(line.startsWith("| ") ? line : "");
            while (call.find()) {
                Checks.due(call.group() + " stands in the table once", named.add(call.group(1)), true);
            }
        }
        Set<String> face = new TreeSet<>();
        for (Method m : LaneDoors.class.getDeclaredMethods()) {
            if (Modifier.isPublic(m.getModifiers())) {
                face.add(m.getName());
            }
        }
        Checks.due("the table names " + named + ", which is the face", named.equals(face), true);
    }
}
