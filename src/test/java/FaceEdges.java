import java.io.IOException;
import java.io.UncheckedIOException;
import java.lang.reflect.Field;
import java.lang.reflect.Method;
import java.lang.reflect.Modifier;
import java.lang.reflect.Parameter;
import java.nio.file.Files;
import java.nio.file.Path;
import java.util.ArrayList;
import java.util.List;
import java.util.Map;
import java.util.TreeMap;
import java.util.regex.Matcher;
import java.util.regex.Pattern;

/** What stands around 'Terms' and the promises: what it is, the face, the interface's headings, what is not promised. */
final class FaceEdges {
    private static final Path SOURCE = Path.of("src/main/java/StageFights.java");
    private static final int PUBLIC_CONSTANT = Modifier.PUBLIC | Modifier.STATIC | Modifier.FINAL;

    private FaceEdges() {
    }

    static void all() {
        whatItIs();
        callsOfOneObject();
        theClass();
        constants();
        calls();
        heads();
        headings();
        notPromised();
    }

    // ---- What it is

    /** One evening, with something of all that the sentence tells, in its order. */
    private static void whatItIs() {
        Sentences.frame("What it is", """
            Fights that hurt nobody: blows, falls and blades on a stage laid beat by beat so that no line crosses a face; where
            each one is at each beat, how late each may be, the worst that can come of it; signs of those who are ready, what
            the house sees, hours of practice by law texts, weapons out and in and how worn, tonight's understudy and the
            fewest cuts, moves that are shifted, shows that are drawn and their near misses, led to moves; all told in rows that
            can be checked, kept and gone on from.""");
        Script.rows(LAID, LOOKED_AT, PREPARED, DONE);
    }

    private static final String LAID = """
        person(33, 9) 0
        person(37, 6) 1
        person(83, 3) 2
        move(0, 2, 102, 33, 13) 0      # a blow at beats 10 and 11
        move(2, 1, 84, 43, 0) 1        # a step at beats 8 .. 11, towards who strikes
        move(2, 5, 201, 40, 0) 2       # a fall
        """;

    private static final String LOOKED_AT = """
        where(2, 7) 83
        where(2, 8) 73
        where(2, 9) 63
        where(2, 10) 53
        where(2, 11) 43
        where(2, 19) 43
        where(2, 20) 40
        where(2, 99) 40
        told(0, 4) 0
        told(1, 4) 1
        told(2, 4) 2
        gap(0, 1) 2
        gap(0, 2) -1
        keeps(0) 0
        breach(0) 0
        breach(1) 2
        may() 1
        unready(0) 1
        sign(1, 7) 1
        unready(0) 0
        seen(0) 1
        story() 10
        """;

    private static final String PREPARED = """
        hours(0, 1, 0) 4
        'hours n*5' 0
        hours(0, 1, 0) 5
        practise(1, 0, 4) 4
        weapon() 0
        out(0, 0) 1
        wear(0, 1) 0
        choose(0) 1
        understudy(2, 9, 0) 1          # so near comes even one who is never late
        understudy(2, 9, 1) 5
        clear() 1
        choose(1) 1
        shifts(-1) 4
        shifts(0) 4
        shift() 4
        of(1, 2) 12
        breach(0) NONE
        may() 3
        practise(0, 1, 1) 5
        may() 0
        """;

    private static final String DONE = """
        keep() 0
        show(1) 0
        wear(0, 0) 1
        told(0, 2) 2
        told(2, 2) 4
        tell(0) 1
        tell(6) 2
        tell(0) 3
        tell(12) 4
        check(2) 0
        back() 0
        told(2, 2) 0
        wear(0, 0) 0
        move(1, 1, 92, 34, 0) 3        # towards who strikes, at beats 9 and 10
        may() 1
        show(2) 2
        log(0, 0) 0
        log(0, 1) 0
        log(0, 2) 1
        log(1, 0) 1
        led() 0
        in(0) 0
        wear(0, 0) 2
        wear(0, 1) NONE
        """;

    private static void callsOfOneObject() {
        Sentences.frame("What it is", "An object is used for at most 512 calls after it has been made; what later calls answer is free.");
        String laid = "person(33, 9) 0\nperson(34, 9) 1\nmove(0, 2, 101, 0, 11) 0\n";
        Script.rows(laid, "508 x cut(0, false) 0", "breach(1) 1");
        Script.rows(laid, "508 x gap(0, 1) -1", "show(1) 1");
        Script.rows(laid, "508 x gap(2, 1) BAD", "show(20) 20");
        Script.rows(laid, "49 x show(20) 20", "show(19) 19", "458 x show(1) FULL", "count(9) 999");
        Script.rows(laid, "keep() 0", "tell(1) 1\ncheck(1) 2\n".repeat(253), "show(2) 2", "back() 0");
        Script.rows(laid, "seed(7) 1", "505 x seed(7) 7", "seed(8) 7", "count(13) 8", "led() NONE");
        StringBuilder texts = new StringBuilder();
        for (int i = 0; i < 50; i++) {
            // Ten calls each: eight for the longest text that there can be, a trim, and the text.
            texts.append("'late 3").append("-0".repeat(45)).append("' ").append(i < 14 ? Integer.toString(i) : "FULL").append('\n');
        }
        Script.rows(laid, texts.toString(), "told(0, 4) 3", "textTold(13, 1) 46", "count(5) 14");
    }

    // ---- The public face

    private static void theClass() {
        Sentences.frame("The public face", "public final class StageFights {");
        Class<?> face = StageFights.class;
        Due.is("public and final", face.getModifiers(), Modifier.PUBLIC | Modifier.FINAL);
        Due.is("under Object", face.getSuperclass() == Object.class && face.getInterfaces().length == 0 ? 1 : 0, 1);
        Due.is("no package", face.getPackageName().isEmpty() ? 1 : 0, 1);
        Sentences.frame("The public face", "public StageFights();");
        Due.is("one constructor", face.getDeclaredConstructors().length, 1);
        Due.is("public", face.getDeclaredConstructors()[0].getModifiers(), Modifier.PUBLIC);
        Due.is("without parameters", face.getDeclaredConstructors()[0].getParameterCount(), 0);
        Due.is("throws nothing", face.getDeclaredConstructors()[0].getExceptionTypes().length, 0);
    }

    private static void constants() {
        Matcher row = Pattern.compile("public static final int ([^;]*);").matcher(Sentences.section("The public face"));
        Due.is("the constants are told", row.find() ? 1 : 0, 1);
        Sentences.frame("The public face", row.group());
        Map<String, Integer> due = new TreeMap<>();
        for (String each : row.group(1).split(", ")) {
            due.put(each.split(" = ")[0], Integer.parseInt(each.split(" = ")[1]));
        }
        Due.is("so many constants", due.size(), 8);
        Map<String, Integer> have = new TreeMap<>();
        for (Field f : StageFights.class.getDeclaredFields()) {
            if (!Modifier.isPrivate(f.getModifiers())) {
                Due.is(f.getName() + " is a public constant", f.getModifiers() == PUBLIC_CONSTANT && f.getType() == int.class ? 1 : 0, 1);
                have.put(f.getName(), valueOf(f));
            }
        }
        Due.is("constants " + have, have.equals(due) ? 1 : 0, 1);
    }

    private static int valueOf(Field f) {
        try {
            return f.getInt(null);
        } catch (IllegalAccessException never) {
            throw new IllegalStateException(never);
        }
    }

    /** As the document shows a call. */
    private static String shown(Method m) {
        List<String> types = new ArrayList<>();
        for (Parameter each : m.getParameters()) {
            types.add(each.getType().getName());
        }
        return m.getReturnType().getName() + " " + m.getName() + "(" + String.join(", ", types) + ")";
    }

    private static String withoutNames(String call) {
        return call.replaceAll("\\b(int|boolean) \\w+(?=[,)])", "$1");
    }

    private static List<String> openCalls() {
        List<String> have = new ArrayList<>();
        for (Method m : StageFights.class.getDeclaredMethods()) {
            if (!Modifier.isPrivate(m.getModifiers()) && !m.isSynthetic()) {
                Due.is(m.getName() + " is public, no more", m.getModifiers(), Modifier.PUBLIC);
                Due.is(m.getName() + " throws nothing", m.getExceptionTypes().length, 0);
                have.add(shown(m));
            }
        }
        return have;
    }

    private static void calls() {
        List<String> have = openCalls();
        Matcher call = Pattern.compile("public (int \\w+\\([^)]*\\));").matcher(Sentences.section("The public face"));
        int told = 0;
        while (call.find()) {
            told++;
            Sentences.frame("The public face", call.group());
            Due.is(call.group(), have.contains(withoutNames(call.group(1))) ? 1 : 0, 1);
        }
        Due.is("so many calls", have.size(), told);
        Due.is("all that the document tells", told, 50);
    }

    /** A promise's name and its call are those of the face; the first is the constructor's. */
    private static void heads() {
        Sentences.frame("Head 1", "A new object: StageFights()");
        String face = Sentences.section("The public face");
        Matcher call = Pattern.compile("public (int (\\w+)\\([^)]*\\));").matcher(face);
        int number = 1;
        while (call.find()) {
            number++;
            Sentences.frame("Head " + number, call.group(2) + ": " + call.group(1));
        }
        Due.is("promises", number, 51);
    }

    // ---- Ahead of the calls

    private static void headings() {
        String source = source();
        Matcher row = Pattern.compile("Ahead of the calls ([^.]*) the interface says: ---- ([^.]*)\\.").matcher(Sentences.section("Ahead of the calls"));
        int from = 0;
        while (row.find()) {
            Sentences.frame("Ahead of the calls", row.group());
            int at = source.indexOf("    // ---- " + row.group(2) + "\n", from);
            Due.is("the source says ---- " + row.group(2), at >= from ? 1 : 0, 1);
            from = Math.max(at, from);
            for (String name : row.group(1).replace("`", "").split(", ")) {
                int call = source.indexOf("    public int " + name + "(", from);
                Due.is(name + " stands in the document's order", call >= from ? 1 : 0, 1);
                Due.is(name + " stands right below its heading", source.substring(from, Math.max(from, call)).indexOf("// ----", 8), -1);
                from = Math.max(call, from);
            }
        }
    }

    private static String source() {
        try {
            return Files.readString(SOURCE);
        } catch (IOException thrown) {
            throw new UncheckedIOException(thrown);
        }
    }

    // ---- Not promised

    private static void notPromised() {
        Sentences.frame("Not promised", """
            How the state is held inside the object is free, as are the speed of each call, the text of toString and the
            behaviour of equals and hashCode.""");
        for (Class<?> each : StageFights.class.getDeclaredClasses()) {
            Due.is(each + " is not seen from outside", Modifier.isPrivate(each.getModifiers()) ? 1 : 0, 1);
        }
        Sentences.frame("Not promised", "Use of one object from several threads at once is not promised to be safe.");
        Sentences.frame("Not promised", """
            Nothing is promised beyond the answers and state changes described above, and nothing about an object after its
            512th call.""");
        otherObjects();
    }

    /** What is done to one object changes nothing of another one. */
    private static void otherObjects() {
        StageFights still = new StageFights();
        still.person(33, 9);
        still.person(34, 9);
        still.move(0, 2, 101, 0, 11);
        still.keep();
        String before = Due.state(still);
        Script.rows(LAID, LOOKED_AT, PREPARED, DONE);
        Due.is("another object is as it was", before.equals(Due.state(still)) ? 1 : 0, 1);
        Due.is("a new one is new", Due.state(new StageFights()).equals(Due.state(new StageFights())) ? 1 : 0, 1);
    }
}
