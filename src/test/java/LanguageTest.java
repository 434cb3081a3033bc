import java.io.IOException;
import java.lang.reflect.Constructor;
import java.lang.reflect.Field;
import java.lang.reflect.Method;
import java.lang.reflect.Modifier;
import java.nio.file.Files;
import java.nio.file.Path;
import java.util.ArrayList;
import java.util.Arrays;
import java.util.List;
import java.util.Set;
import java.util.TreeSet;
import java.util.regex.Matcher;
import java.util.regex.Pattern;

/** What of LANGUAGE.md can be seen in the source and in the compiled classes. */
public final class LanguageTest {
    private static final Path SOURCE = Path.of("src/main/java/StageFights.java");
    private static final Path DOCUMENT = Path.of("../shared/DOC.md");

    public static void main(String[] args) throws IOException {
        String source = Files.readString(SOURCE);
        String bare = bare(source);
        signs(source);
        words(bare);
        library(bare);
        face();
        classes();
        names();
        lengths(bare);
        Due.end();
    }

    /** Without comments, and without what stands in texts and signs. */
    private static String bare(String source) {
        return source.replaceAll("(?s)/\\*.*?\\*/", "").replaceAll("//[^\n]*", "")
            .replaceAll("\"[^\"\n]*\"", "\"\"").replaceAll("'[^'\n]'", "' '");
    }

    private static void signs(String source) {
        int other = 0;
        for (char c : source.toCharArray()) {
            other += c == '\n' || c >= ' ' && c < 127 ? 0 : 1;
        }
        Due.is("signs outside 32 .. 126", other, 0);
    }

    private static void words(String bare) {
        String[] never = {
            "\\bthrow\\b", "\\bthrows\\b", "\\btry\\b", "\\bcatch\\b", "\\bfinally\\b", "\\bsynchronized\\b", "\\bassert\\b",
            "\\bvolatile\\b", "\\bnative\\b", "\\bvar\\b", "\\bpackage\\b", "\\bprotected\\b", "->", "::", "@", "Exact\\(",
            "static\\s*\\{", "\\bhashCode\\b", "\\btoString\\b", "\\bdouble\\b", "\\bfloat\\b", "\\+ *\"\"", "\"\" *\\+"};
        for (String word : never) {
            Due.is("rule 2, 3, 6, 10: " + word, Pattern.compile(word).matcher(bare).find() ? 1 : 0, 0);
        }
        Matcher loop = Pattern.compile("while \\(([^\n]*)\\) \\{").matcher(bare);
        while (loop.find()) {
            Due.is("rule 9: while (" + loop.group(1) + ")", loop.group(1).contains("<") ? 1 : 0, 1);
        }
        Due.is("rule 9: for without a bound", bare.contains(";;") ? 1 : 0, 0);
    }

    private static void library(String bare) {
        Matcher named = Pattern.compile("\\bimport ([\\w.]+);").matcher(bare);
        while (named.find()) {
            Due.is("rule 4: import " + named.group(1), named.group(1).equals("java.util.Arrays") ? 1 : 0, 1);
        }
        Set<String> allowed = Set.of("Math.max", "Math.min", "Math.abs", "System.arraycopy", "Arrays.copyOf");
        Matcher called = Pattern.compile("\\b(Math|System|Arrays|Integer|Long|String|Objects)\\.(\\w+)").matcher(bare);
        while (called.find()) {
            Due.is("rule 4: " + called.group(), allowed.contains(called.group()) ? 1 : 0, 1);
        }
    }

    private static void face() throws IOException {
        String document = Files.readString(DOCUMENT);
        String shown = document.substring(document.indexOf("```java"), document.indexOf("## Terms"));
        Set<String> due = new TreeSet<>();
        Matcher call = Pattern.compile("public int (\\w+)\\(([^)]*)\\);").matcher(shown);
        while (call.find()) {
            due.add(call.group(1) + call.group(2).replaceAll("(int|boolean) \\w+", "$1"));
        }
        Set<String> have = new TreeSet<>();
        for (Method m : StageFights.class.getDeclaredMethods()) {
            if (!Modifier.isPrivate(m.getModifiers()) && !m.isSynthetic()) {
                List<String> types = new ArrayList<>();
                for (Class<?> type : m.getParameterTypes()) {
                    types.add(type.getName());
                }
                have.add(m.getName() + String.join(", ", types));
                Due.is("rule 1: " + m.getName(), Modifier.isPublic(m.getModifiers()) && m.getReturnType() == int.class ? 1 : 0, 1);
            }
        }
        Due.is("the document has 50 calls", due.size(), 50);
        Due.is("the face " + have + " is " + due, have.equals(due) ? 1 : 0, 1);
        List<String> constants = Arrays.asList("BAD", "NO", "FULL", "NONE", "NOTHING", "KIND", "INDEX", "SIZE");
        for (Field f : StageFights.class.getDeclaredFields()) {
            boolean open = !Modifier.isPrivate(f.getModifiers());
            Due.is("rule 1: field " + f.getName(), open && !constants.contains(f.getName()) ? 1 : 0, 0);
        }
        Constructor<?>[] made = StageFights.class.getConstructors();
        Due.is("one constructor", made.length, 1);
        Due.is("without parameters", made[0].getParameterCount(), 0);
        Due.is("final", Modifier.isFinal(StageFights.class.getModifiers()) ? 1 : 0, 1);
    }

    private static List<Class<?>> all() {
        List<Class<?>> all = new ArrayList<>();
        all.add(StageFights.class);
        all.addAll(Arrays.asList(StageFights.class.getDeclaredClasses()));
        return all;
    }

    private static void classes() {
        Due.is("rule 11: twelve classes at most", all().size() <= 12 ? 1 : 0, 1);
        for (Class<?> each : all()) {
            int fields = 0;
            boolean inside = each != StageFights.class;
            Due.is("rule 1: " + each, inside && Modifier.isPublic(each.getModifiers()) ? 1 : 0, 0);
            Due.is("rule 2: " + each, inside && !Modifier.isStatic(each.getModifiers()) ? 1 : 0, 0);
            for (Field f : each.getDeclaredFields()) {
                boolean fixed = Modifier.isStatic(f.getModifiers());
                fields += fixed ? 0 : 1;
                Due.is("rule 5: " + f, fixed && !Modifier.isFinal(f.getModifiers()) ? 1 : 0, 0);
            }
            Due.is("rule 11: fields of " + each + ": " + fields, fields <= 20 ? 1 : 0, 1);
            for (Method m : each.getDeclaredMethods()) {
                Due.is("rule 11: " + m, m.getParameterCount() <= 7 ? 1 : 0, 1);
            }
        }
    }

    private static void names() {
        Set<String> open = new TreeSet<>();
        for (Method m : StageFights.class.getMethods()) {
            open.add(m.getName());
        }
        for (Class<?> each : all()) {
            for (Method m : each.getDeclaredMethods()) {
                boolean face = each == StageFights.class && Modifier.isPublic(m.getModifiers());
                Due.is("rule 1: the name of " + m, !face && open.contains(m.getName()) ? 1 : 0, 0);
            }
        }
    }

    private static void lengths(String bare) {
        Matcher head = Pattern.compile("(?m)^( +)(?=\\w)(?!return|else|if|for|while|switch)[\\w\\[\\] ]+\\([^;{}]*\\) \\{\n").matcher(bare);
        int methods = 0;
        while (head.find()) {
            int end = bare.indexOf("\n" + head.group(1) + "}", head.end());
            long lines = bare.substring(head.end(), end).lines().count();
            methods++;
            Due.is("rule 11: " + head.group().trim() + " has " + lines + " lines", lines <= 60 ? 1 : 0, 1);
        }
        Due.is("methods are found", methods > 100 ? 1 : 0, 1);
    }
}
