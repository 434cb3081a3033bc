import java.util.ArrayList;
import java.util.List;

/** What the tests share: answers that are due, and texts put on the tape. */
final class Due {
    static final int BAD = -1000000001, NO = -1000000002, FULL = -1000000003, NONE = -1000000005;
    static final int NOTHING = -1000000011, KIND = -1000000012, INDEX = -1000000013, SIZE = -1000000014;

    private static final List<String> WRONG = new ArrayList<>();
    private static int asked = 0;

    private Due() {
    }

    static void is(String call, long got, long want) {
        asked++;
        if (got != want) {
            WRONG.add(call + " answered " + got + ", due is " + want);
        }
    }

    /** Ends the test: exit code 1, if an answer was not the one that was due. */
    static void end() {
        int shown = 0;
        for (String row : WRONG) {
            if (shown++ < 40) {
                System.out.println(row);
            }
        }
        System.out.println(asked + " answers, " + WRONG.size() + " not as due");
        if (!WRONG.isEmpty() || asked == 0) {
            System.exit(1);
        }
    }

    /** THE TAPE gets these bytes and no other; it must be empty ahead of it. */
    static void put(StageFights x, String bytes) {
        for (int i = 0; i < bytes.length(); i += 12) {
            x.feed(four(bytes, i), four(bytes, i + 4), four(bytes, i + 8));
        }
        x.trim(bytes.length());
    }

    /** A text told: its number, or its refusal. */
    static int text(StageFights x, String bytes) {
        put(x, bytes);
        return x.text();
    }

    static int four(String bytes, int from) {
        int all = 0;
        for (int i = from; i < from + 4; i++) {
            all = all << 8 | (i < bytes.length() ? bytes.charAt(i) & 255 : 0);
        }
        return all;
    }

    /** All that can be asked without a change, as one text. */
    static String state(StageFights x) {
        StringBuilder all = new StringBuilder();
        for (int i = 0; i <= 13; i++) {
            all.append(" count ").append(x.count(i));
        }
        for (int i = 0; i < 8; i++) {
            for (int what = 0; what <= 4; what++) {
                all.append(" told ").append(x.told(i, what));
            }
            for (int beat = -9; beat <= 99; beat++) {
                all.append(' ').append(x.where(i, beat));
            }
            for (int other = 0; other < 8; other++) {
                all.append(" hours ").append(x.hours(i, other, 0)).append(' ').append(x.hours(i, other, 1));
            }
        }
        for (int i = 0; i < 20; i++) {
            for (int what = 0; what <= 12; what++) {
                all.append(" of ").append(x.of(i, what));
            }
            all.append(' ').append(x.keeps(i)).append(' ').append(x.seen(i)).append(' ').append(x.unready(i));
        }
        for (int i = 0; i < 14; i++) {
            all.append(" text ").append(x.textTold(i, 0)).append(' ').append(x.textTold(i, 1));
        }
        for (int i = 0; i < 6; i++) {
            for (int what = 0; what <= 2; what++) {
                all.append(" wear ").append(x.wear(i, what));
            }
        }
        for (int i = 0; i < 30; i++) {
            for (int what = 0; what <= 2; what++) {
                all.append(" log ").append(x.log(i, what));
            }
        }
        for (int i = 0; i < 5; i++) {
            all.append(" slot ").append(x.ask(i, 0)).append(' ').append(x.rest(i, 1000003));
            for (int place = 0; place < 25; place++) {
                all.append(' ').append(x.item(i, place));
            }
        }
        all.append(" may ").append(x.may()).append(" led ").append(x.led()).append(" story ").append(x.story());
        all.append(" shifts ").append(x.shifts(-1)).append(" breach ").append(x.breach(0)).append(' ').append(x.breach(1));
        return all.toString();
    }

    /** A call that is refused so, and changes nothing. */
    static void refused(String call, StageFights x, java.util.function.IntSupplier act, int want) {
        String before = state(x);
        is(call, act.getAsInt(), want);
        is(call + " changes nothing", before.equals(state(x)) ? 1 : 0, 1);
    }
}
