import java.util.ArrayList;
import java.util.List;

/** What the tests share: answers that are due, and texts put on the tape. */
final class Due {
    static final int BAD = -1000000001, NO = -1000000002, FULL = -1000000003, NONE = -1000000005;
    static final int NOTHING = -1000000011, KIND = -1000000012, INDEX = -1000000013, SIZE = -1000000014;

    private static final List<String> WRONG = new ArrayList<>();
    private static int asked = 0;

    private Due() {
    }

    static void is(String call, long got, long want) {
        asked++;
        if (got != want) {
            WRONG.add(call + " answered " + got + ", due is " + want);
        }
    }

    /** Ends the test: exit code 1, if an answer was not the one that was due. */
    static void end() {
        int shown = 0;
        for (String row : WRONG) {
            if (shown++ < 40) {
                System.out.println(row);
            }
        }
        System.out.println(asked + " answers, " + WRONG.size() + " not as due");
        if (!WRONG.isEmpty() || asked == 0) {
            System.exit(1);
        }
    }

    /** THE TAPE gets these bytes and no other; it must be empty ahead of it. */
    static void put(StageFights x, String bytes) {
        for (int i = 0; i < bytes.length(); i += 12) {
            x.feed(four(bytes, i), four(bytes, i + 4), four(bytes, i + 8));
        }
        x.trim(bytes.length());
    }

    /** A text told: its number, or its refusal. */
    static int text(StageFights x, String bytes) {
        put(x, bytes);
        return x.text();
    }

    static int four(String bytes, int from) {
        int all = 0;
        for (int i = from; i < from + 4; i++) {
            all = all << 8 | (i < bytes.length() ? bytes.charAt(i) & 255 : 0);
        }
        return all;
    }

    /** All that can be seen of an object, as one text; nothing is asked of the object itself. */
    static String state(StageFights x) {
        return Seen.of(() -> Twin.of(x), true);
    }

    /** A call that is refused so, and changes nothing. */
    static void refused(String call, StageFights x, java.util.function.IntSupplier act, int want) {
        String before = state(x);
        is(call, act.getAsInt(), want);
        is(call + " changes nothing", before.equals(state(x)) ? 1 : 0, 1);
    }
}
