import java.io.ByteArrayOutputStream;
import java.io.File;
import java.io.IOException;
import java.io.PrintStream;
import java.lang.reflect.Field;
import java.net.URL;
import java.net.URLClassLoader;
import java.nio.charset.StandardCharsets;
import java.nio.file.Files;
import java.nio.file.Path;
import java.util.ArrayList;
import java.util.Arrays;
import java.util.Comparator;
import java.util.List;
import java.util.Set;
import java.util.stream.Stream;
import javax.tools.ToolProvider;

/**
 * 'An object is used for at most 512 calls': the tests keep to it. They run once more with a copy of the class that counts its
 * calls; a copy that Twin makes has the calls of its twin behind it.
 */
public final class LimitTest {
    private static final Path PROGRAM = Path.of("src/main/java/StageFights.java");
    private static final Path TESTS = Path.of("src/test/java");
    /** These ask no object, or go beyond the limit to see that nothing throws there. */
    private static final Set<String> OTHERS = Set.of("LimitTest", "LanguageTest", "ReadmeTest", "RoomTest", "LongRunsTest");

    public static void main(String[] args) throws IOException, ReflectiveOperationException {
        Path folder = Files.createTempDirectory("limit");
        Due.is("a copy that counts compiles", compile(folder), 0);
        System.setProperty("runs", "200");
        for (String test : tests()) {
            int most = mostCalls(folder, test);
            Due.is(test + " asks an object " + most + " times", most >= 1 && most <= Both.CALLS ? 1 : 0, 1);
        }
        try (Stream<Path> all = Files.walk(folder)) {
            all.sorted(Comparator.reverseOrder()).map(Path::toFile).forEach(File::delete);
        }
        Due.end();
    }

    private static List<String> tests() {
        List<String> names = new ArrayList<>();
        for (String file : TESTS.toFile().list()) {
            String name = file.replace(".java", "");
            if (name.endsWith("Test") && !OTHERS.contains(name)) {
                names.add(name);
            }
        }
        names.sort(null);
        return names;
    }

    private static String counting(String program) {
        return program
            .replaceFirst("(?m)^public final class StageFights \\{$", "$0 private int callsMade = 0; private static int mostCalls = 0;")
            .replaceAll("(?m)^    public int \\w+\\([^)]*\\) \\{$", "$0 callsMade++; mostCalls = Math.max(mostCalls, callsMade);");
    }

    private static int compile(Path folder) throws IOException {
        Path copy = folder.resolve("StageFights.java");
        Files.writeString(copy, counting(Files.readString(PROGRAM)));
        List<String> words = new ArrayList<>(Arrays.asList("-encoding", "UTF-8", "-nowarn", "-d", folder.toString(), copy.toString()));
        for (String file : TESTS.toFile().list()) {
            words.add(TESTS.resolve(file).toString());
        }
        return ToolProvider.getSystemJavaCompiler().run(null, null, null, words.toArray(new String[0]));
    }

    /** Runs a test with classes of its own, and says how often it asked the object that it asked most. */
    private static int mostCalls(Path folder, String test) throws IOException, ReflectiveOperationException {
        PrintStream before = System.out;
        try (URLClassLoader loader = new URLClassLoader(new URL[] {folder.toUri().toURL()}, ClassLoader.getPlatformClassLoader())) {
            System.setOut(new PrintStream(new ByteArrayOutputStream(), true, StandardCharsets.UTF_8));
            loader.loadClass(test).getMethod("main", String[].class).invoke(null, (Object) new String[0]);
            Field most = loader.loadClass("StageFights").getDeclaredField("mostCalls");
            most.setAccessible(true);
            return most.getInt(null);
        } finally {
            System.setOut(before);
        }
    }
}
