import java.io.IOException;
import java.lang.reflect.Field;
import java.lang.reflect.Method;
import java.lang.reflect.Modifier;
import java.nio.file.Files;
import java.nio.file.Path;
import java.util.ArrayList;
import java.util.Arrays;
import java.util.List;
import java.util.Map;
import java.util.Set;
import java.util.TreeMap;
import java.util.TreeSet;

/** What of LANGUAGE.md can be seen in the source (as the compiler reads it) and in the compiled classes. */
public final class LanguageTest {
    private static final Path SOURCE = Path.of("src/main/java/StageFights.java");
    private static final int DEEPEST = 8;

    public static void main(String[] args) throws IOException {
        Source source = Source.of(SOURCE);
        for (String row : source.broken) {
            Due.is(row, 1, 0);
        }
        Due.is("methods are found", source.methods > 100 ? 1 : 0, 1);
        Due.is("calls are found", source.calls.get("StageFights.shift").contains("Shifter.seek") ? 1 : 0, 1);
        classes(source);
        names();
        depth(source.calls);
        makers(source);
        finds();
        Due.end();
    }

    private static List<Class<?>> all() {
        List<Class<?>> all = new ArrayList<>();
        all.add(StageFights.class);
        all.addAll(Arrays.asList(StageFights.class.getDeclaredClasses()));
        return all;
    }

    private static void classes(Source source) {
        Due.is("the classes that the source has", source.classes.size(), all().size());
        Due.is("rule 11: twelve classes at most", all().size() <= 12 ? 1 : 0, 1);
        for (Class<?> each : all()) {
            int fields = 0;
            for (Field f : each.getDeclaredFields()) {
                fields += Modifier.isStatic(f.getModifiers()) ? 0 : 1;
            }
            Due.is("rule 11: fields of " + each + ": " + fields, fields <= 20 ? 1 : 0, 1);
        }
    }

    /** Rule 1: no other method bears the name of one of the face, in the classes inside neither. */
    private static void names() {
        Set<String> open = new TreeSet<>();
        for (Method m : StageFights.class.getMethods()) {
            open.add(m.getName());
        }
        for (Class<?> each : all()) {
            for (Method m : each.getDeclaredMethods()) {
                boolean face = each == StageFights.class && Modifier.isPublic(m.getModifiers());
                Due.is("rule 1: the name of " + m, !face && open.contains(m.getName()) ? 1 : 0, 0);
            }
        }
    }

    // ---- rules 8 and 11: who calls whom

    private static Set<String> reached(Map<String, Set<String>> calls, String from) {
        Set<String> all = new TreeSet<>();
        List<String> open = new ArrayList<>(calls.getOrDefault(from, Set.of()));
        while (!open.isEmpty()) {
            String one = open.remove(open.size() - 1);
            if (all.add(one)) {
                open.addAll(calls.getOrDefault(one, Set.of()));
            }
        }
        return all;
    }

    private static void depth(Map<String, Set<String>> calls) {
        Map<String, Set<String>> reached = new TreeMap<>();
        Set<String> recursive = new TreeSet<>();
        for (String one : calls.keySet()) {
            reached.put(one, reached(calls, one));
            if (reached.get(one).contains(one)) {
                recursive.add(one);
            }
        }
        // Both carry how many ( and ! are open, and refuse the ninth: 9 times 7 calls and 9 more stand open at the most.
        Due.is("rule 8: recursion in " + recursive, recursive.equals(Set.of("Reader.tier", "Reader.piece")) ? 1 : 0, 1);
        Map<String, Integer> deep = new TreeMap<>();
        for (String one : calls.keySet()) {
            int levels = deepest(calls, reached, deep, one);
            Due.is("rule 11: " + one + " goes " + levels + " deep", levels <= DEEPEST ? 1 : 0, 1);
        }
        Due.is("depths are found", deep.get("StageFights.shift") > 4 ? 1 : 0, 1);
    }

    /** How many calls stand open below one and with it; those that call one another count once each. */
    private static int deepest(Map<String, Set<String>> calls, Map<String, Set<String>> reached, Map<String, Integer> deep, String from) {
        if (deep.containsKey(from)) {
            return deep.get(from);
        }
        Set<String> together = new TreeSet<>(Set.of(from));
        for (String other : reached.getOrDefault(from, Set.of())) {
            if (reached.getOrDefault(other, Set.of()).contains(from)) {
                together.add(other);
            }
        }
        int below = 0;
        for (String one : together) {
            for (String other : calls.getOrDefault(one, Set.of())) {
                if (!together.contains(other)) {
                    below = Math.max(below, deepest(calls, reached, deep, other));
                }
            }
        }
        deep.put(from, below + together.size());
        return deep.get(from);
    }

    /** Rule 12, and the one room that all calls share: a text that is told is all that a call makes. */
    private static void makers(Source source) {
        Due.is("rule 12: " + source.makers + " make objects", source.makers.equals(Set.of("Reader.read")) ? 1 : 0, 1);
    }

    // ---- that the rules are seen at all

    private static void finds() throws IOException {
        found(2, "Runnable r = () -> { };");
        found(2, "Object o = new Object() { };");
        found(2, "class Local { }");
        found(3, "Object o = null;");
        found(3, "int[][][] o = new int[1][1][1];");
        found(4, "int o = Math.addExact(1, 2);");
        found(4, "int o = Integer.MAX_VALUE;");
        found(4, "long o = System.nanoTime();");
        found(4, "String o = \"a\".trim();");
        found(6, "throw new IllegalStateException();");
        found(6, "try { } finally { }");
        found(6, "synchronized (this) { }");
        found(6, "assert true;");
        found(6, "boolean o = \"a\" == \"b\";");
        found(9, "for (;;) { }");
        found(9, "while (true) { }");
        found(9, "do { } while (true);");
        found(10, "String o = \"a\" + 1;");
        found(11, "int o = 0;\n" + "o++;\n".repeat(60));
        found(12, "of(this);");
        found(0, "int o = Math.max(1, 2); for (int i = 0; i < o; i++) { o--; }");
    }

    private static void found(int rule, String rows) throws IOException {
        Path folder = Files.createTempDirectory("rules");
        Path file = folder.resolve("StageFights.java");
        Files.writeString(file, "public final class StageFights {\n    private int all() {\n" + rows
            + "\n        return 0;\n    }\n    private static void of(StageFights x) {\n    }\n}\n");
        List<String> broken = Source.of(file).broken;
        boolean seen = false;
        for (String row : broken) {
            seen |= row.startsWith("rule " + rule + ",");
        }
        Due.is("rule " + rule + " is seen in '" + rows.lines().findFirst().orElse("") + "': " + broken, seen || rule == 0 && broken.isEmpty() ? 1 : 0, 1);
        Files.delete(file);
        Files.delete(folder);
    }
}
