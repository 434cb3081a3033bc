import java.io.ByteArrayOutputStream;
import java.io.File;
import java.io.IOException;
import java.io.PrintStream;
import java.lang.reflect.Field;
import java.lang.reflect.Modifier;
import java.net.URL;
import java.net.URLClassLoader;
import java.nio.charset.StandardCharsets;
import java.nio.file.Files;
import java.nio.file.Path;
import java.util.Set;
import java.util.TreeSet;
import java.util.regex.Matcher;
import java.util.regex.Pattern;
import javax.tools.ToolProvider;

/** README.md: its program does what it says, and it names every call, every answer of a refusal and every test. */
public final class ReadmeTest {
    private static final Path README = Path.of("README.md");
    private static final Path PROGRAM = Path.of("src/main/java/StageFights.java");
    private static final Path TESTS = Path.of("src/test/java");

    public static void main(String[] args) throws IOException, ReflectiveOperationException {
        String page = Files.readString(README);
        program(block(page, "java"), block(page, "text"));
        calls(page);
        answers(page);
        tests(page);
        Due.end();
    }

    private static String block(String page, String sort) {
        Matcher found = Pattern.compile("(?s)```" + sort + "\n(.*?)```").matcher(page);
        Due.is("a block of " + sort, found.find() ? 1 : 0, 1);
        return found.group(1);
    }

    private static void program(String source, String due) throws IOException, ReflectiveOperationException {
        Path folder = Files.createTempDirectory("readme");
        Path file = folder.resolve("Evening.java");
        Files.writeString(file, source);
        int told = ToolProvider.getSystemJavaCompiler().run(null, null, null, "-encoding", "UTF-8", "-d", folder.toString(),
            PROGRAM.toString(), file.toString());
        Due.is("it compiles", told, 0);
        if (told == 0) {
            String printed = printed(folder);
            Due.is("it prints what the page says: " + printed, printed.equals(due) ? 1 : 0, 1);
        }
        for (File each : folder.toFile().listFiles()) {
            Files.delete(each.toPath());
        }
        Files.delete(folder);
    }

    private static String printed(Path folder) throws IOException, ReflectiveOperationException {
        PrintStream before = System.out;
        ByteArrayOutputStream bytes = new ByteArrayOutputStream();
        try (URLClassLoader loader = new URLClassLoader(new URL[] {folder.toUri().toURL()}, ClassLoader.getPlatformClassLoader())) {
            System.setOut(new PrintStream(bytes, true, StandardCharsets.UTF_8));
            loader.loadClass("Evening").getMethod("main", String[].class).invoke(null, (Object) new String[0]);
        } finally {
            System.setOut(before);
        }
        return bytes.toString(StandardCharsets.UTF_8).replace("\r\n", "\n");
    }

    private static void calls(String page) {
        String table = page.substring(page.indexOf("### The calls"), page.indexOf("### What a refused call answers"));
        Set<String> named = new TreeSet<>();
        Matcher name = Pattern.compile("`(\\w+)`").matcher(table);
        while (name.find()) {
            named.add(name.group(1));
        }
        Due.is("the calls " + named, named.equals(new TreeSet<>(Both.OURS.keySet())) ? 1 : 0, 1);
    }

    private static void answers(String page) throws IllegalAccessException {
        for (Field f : StageFights.class.getDeclaredFields()) {
            if (Modifier.isPublic(f.getModifiers())) {
                String row = "| `" + f.getName() + "` | " + f.getInt(null) + " |";
                String aside = "`" + f.getName() + "` (" + f.getInt(null) + ")";
                Due.is(row, page.contains(row) || page.contains(aside) ? 1 : 0, 1);
            }
        }
    }

    private static void tests(String page) {
        for (File each : TESTS.toFile().listFiles()) {
            String name = each.getName().replace(".java", "");
            if (name.endsWith("Test") || name.endsWith("Edges")) {
                Due.is("the page names " + name, page.contains("`" + name + "`") ? 1 : 0, 1);
            }
        }
        Due.is("how to run them", page.contains("\n    bash .ci/run\n") ? 1 : 0, 1);
    }
}
