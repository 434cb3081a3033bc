import java.lang.reflect.InvocationTargetException;
import java.lang.reflect.Method;
import java.util.ArrayList;
import java.util.HashMap;
import java.util.HashSet;
import java.util.List;
import java.util.Map;
import java.util.Set;

/**
 * A run of calls on one new object, written as rows: a call and the answer that is due.
 *
 * <pre>
 * person(33, 9) 0          a call; MAX and MIN are the greatest and the least int
 * 3 x show(20) 0           three calls alike
 * 'late s' 0               THE TAPE (empty ahead of it) gets these bytes, and text() is called
 * 'late x' fault 5         its FAULT is at place 5; \x00 is a byte by its number
 * tape 'late s' 6          THE TAPE gets these bytes, no more
 * person(120, 9) BAD       # what stands behind a # is for the reader
 * </pre>
 *
 * Each call that is refused, and of the calls that only ask the first of each name, is made on a twin, too: all that can be
 * seen must be as if it had not been made. No object is used for more than 512 calls: the document promises nothing behind;
 * so a twin is left out, where too little is left of its calls to look at it.
 */
final class Script {
    private static final int MOST_CALLS = 512;
    private static final Map<String, Integer> NAMED = Map.of(
        "BAD", Due.BAD, "NO", Due.NO, "FULL", Due.FULL, "NONE", Due.NONE, "NOTHING", Due.NOTHING, "KIND", Due.KIND,
        "INDEX", Due.INDEX, "SIZE", Due.SIZE, "MAX", Integer.MAX_VALUE, "MIN", Integer.MIN_VALUE);
    private static final Set<Integer> REFUSALS = Set.of(
        Due.BAD, Due.NO, Due.FULL, Due.NOTHING, Due.KIND, Due.INDEX, Due.SIZE);
    private static final Set<String> ASKING = Set.of(
        "told", "of", "as", "where", "gap", "keeps", "breach", "unready", "seen", "story", "textTold", "hours", "may", "understudy",
        "shifts", "wear", "log", "led", "ask", "item", "rest", "count");
    private static final Map<String, Method> CALLS = calls();

    /** What has been done for good; calls that are refused or only ask change nothing, so they are left out of it. */
    private final List<Row> done = new ArrayList<>();
    private final StageFights x = new StageFights();
    private final Set<String> asked = new HashSet<>();
    private int made = 0;
    private int madeForGood = 0;
    private String seenBefore = null;

    private Script() {
    }

    /** All these rows, one behind the other, on one new object. */
    static void rows(String... parts) {
        Script script = new Script();
        for (String part : parts) {
            for (String line : part.split("\n")) {
                if (!line.isBlank()) {
                    script.row(new Row(line.strip()));
                }
            }
        }
        Due.is("calls of one object: " + script.made, script.made <= MOST_CALLS ? 1 : 0, 1);
    }

    private void row(Row row) {
        int got = row.make(x);
        made += row.calls();
        Due.is(Sentences.now() + row.text, got, row.due);
        if (madeForGood + row.calls() + Seen.MOST_CALLS <= MOST_CALLS) {
            compare(row);
        }
        if (changes(row)) {
            done.add(row);
            madeForGood += row.calls();
            seenBefore = null;
        }
    }

    /** A text or a check does, even if it is refused: the tape, or the numbers that wait. */
    private static boolean changes(Row row) {
        boolean always = row.name.equals("text") || row.name.equals("check");
        return always || !REFUSALS.contains(row.due) && !ASKING.contains(row.name);
    }

    private void compare(Row row) {
        boolean refused = REFUSALS.contains(row.due);
        if (row.name.equals("text") && (refused || row.due <= -100)) {
            same(row, Seen.of(twin(new Row("trim(0) 0")), true), Seen.of(twin(row), true));
        } else if (row.name.equals("check") && refused) {
            same(row, Seen.of(twin(null), false), Seen.of(twin(row), false));
            made++;
            Due.is(Sentences.now() + row.text + ": no number waits", x.count(11), 0);
        } else if (refused || ASKING.contains(row.name)) {
            if (refused || asked.add(row.name)) {
                seenBefore = seenBefore == null ? Seen.of(twin(null), true) : seenBefore;
                same(row, seenBefore, Seen.of(twin(row), true));
            }
        }
    }

    private static void same(Row row, String before, String after) {
        Due.is(Sentences.now() + row.text + " changes nothing", before.equals(after) ? 1 : 0, 1);
    }

    private java.util.function.Supplier<StageFights> twin(Row last) {
        return () -> {
            StageFights twin = new StageFights();
            for (Row row : done) {
                row.make(twin);
            }
            if (last != null) {
                last.make(twin);
            }
            return twin;
        };
    }

    private static Map<String, Method> calls() {
        Map<String, Method> all = new HashMap<>();
        for (Method m : StageFights.class.getDeclaredMethods()) {
            if (java.lang.reflect.Modifier.isPublic(m.getModifiers())) {
                all.put(m.getName(), m);
            }
        }
        return all;
    }

    private static int number(String word) {
        return NAMED.containsKey(word) ? NAMED.get(word) : Integer.parseInt(word);
    }

    /** One row, read. */
    private static final class Row {
        final String text;
        final String name;
        final int due;
        private final int times;
        private final Object[] args;
        private final String bytes;

        Row(String line) {
            int remark = line.lastIndexOf(" # ");
            text = (remark < 0 ? line : line.substring(0, remark)).strip();
            int quote = text.lastIndexOf('\'');
            if (quote >= 0) {
                bytes = unescaped(text.substring(text.indexOf('\'') + 1, quote));
                name = text.startsWith("tape") ? "trim" : "text";
                times = 1;
                args = new Object[0];
                due = answer(text.substring(quote + 1).strip());
                return;
            }
            bytes = null;
            int open = text.indexOf('(');
            int close = text.indexOf(')');
            String head = text.substring(0, open);
            int by = head.indexOf(" x ");
            times = by < 0 ? 1 : Integer.parseInt(head.substring(0, by).strip());
            name = by < 0 ? head : head.substring(by + 3);
            String inner = text.substring(open + 1, close).strip();
            String[] words = inner.isEmpty() ? new String[0] : inner.split(" *, *");
            args = new Object[words.length];
            for (int i = 0; i < words.length; i++) {
                boolean told = words[i].equals("true") || words[i].equals("false");
                args[i] = told ? (Object) Boolean.valueOf(words[i]) : (Object) number(words[i]);
            }
            due = answer(text.substring(close + 1).strip());
        }

        private static int answer(String word) {
            return word.startsWith("fault ") ? -100 - Integer.parseInt(word.substring(6)) : number(word);
        }

        private static String unescaped(String told) {
            StringBuilder all = new StringBuilder();
            for (int i = 0; i < told.length(); i++) {
                if (told.startsWith("\\x", i)) {
                    all.append((char) Integer.parseInt(told.substring(i + 2, i + 4), 16));
                    i += 3;
                } else {
                    all.append(told.charAt(i));
                }
            }
            return all.toString();
        }

        int calls() {
            return bytes == null ? times : (bytes.length() + 11) / 12 + 2;
        }

        /** Makes the call; of several alike the first answer that is not due, or the last. */
        int make(StageFights x) {
            if (bytes != null) {
                Due.put(x, bytes);
                return name.equals("text") ? x.text() : x.count(12);
            }
            int got = 0;
            for (int i = 0; i < times; i++) {
                got = invoke(x);
                if (got != due) {
                    return got;
                }
            }
            return got;
        }

        private int invoke(StageFights x) {
            try {
                return (int) CALLS.get(name).invoke(x, args);
            } catch (InvocationTargetException thrown) {
                Due.is(text + " threw " + thrown.getCause(), 1, 0);
                return 0;
            } catch (IllegalAccessException never) {
                throw new IllegalStateException(never);
            }
        }
    }
}
