import java.util.ArrayList;
import java.util.List;
import java.util.Map;
import java.util.Random;
import java.util.Set;
import java.util.TreeMap;
import java.util.TreeSet;

/**
 * 'What it is': an object answers as it should up to its 512th call, whichever call it is used for; and rule 7 of LANGUAGE.md:
 * no call throws, whatever it is given, long behind the 512th neither.
 */
public final class LongRunsTest {
    private static final int ASKED_LAST = 60;
    private static final int WILD_CALLS = 60000;

    /** Each call, and of each parameter the least and the greatest value that means something. */
    private static final String RANGES = """
        person 0 117 0 9
        told 0 4 0 4
        set 0 4 1 2 0 99
        move 0 4 0 5 1 904 0 117 0 49
        of 0 9 0 12
        as 0 9 0 5
        cut 0 9 0 1
        wet 0 1
        where 0 4 -9 99
        gap 0 9 0 4
        keeps 0 9
        breach 0 1
        sign 0 4 0 99
        unready -1 9
        seen 0 9
        story
        feed -2147483648 2147483647 -2147483648 2147483647 538976288 2054847098
        trim 0 24
        text
        textTold 0 3 0 1
        hours 0 4 0 4 0 1
        practise 0 4 0 4 1 5
        may
        choose 0 9
        clear
        understudy 0 4 0 9 0 1
        shifts -1 2
        shift
        weapon
        out 0 3 0 4
        in 0 3
        wear 0 3 0 2
        seed -2147483648 2147483647
        show 1 20
        restAll
        log 0 29 0 2
        led
        sheet 0 3 -1 1 0 24
        mark 0 3 0 9 -200 200
        cuts 0 3
        copy 0 3 0 9 0 3 0 9 0 6
        lay 0 4 0 3 0 3
        ask 0 4 0 5
        item 0 4 0 9
        rest 0 4 -9 9
        tell -3 9
        check 1 20
        keep
        back
        count 0 13
        """;
    private static final Map<String, int[]> CALLS = calls();
    private static final int[] EDGES = {
        Integer.MIN_VALUE, Integer.MIN_VALUE + 1, -2147483640, -1000000001, -1000000002, -1000000003, -1000000005, -513, -129, -101,
        -10, -9, -2, -1, 0, 1, 2, 3, 4, 5, 6, 7, 8, 9, 10, 11, 12, 13, 14, 19, 20, 21, 23, 24, 25, 29, 30, 31, 60, 61, 77, 90, 96, 97, 99,
        100, 117, 118, 120, 127, 128, 255, 256, 512, 901, 904, 905, 911, 999, 1000, 65536, 2147483640, Integer.MAX_VALUE - 1, Integer.MAX_VALUE};

    private final Random random;

    private LongRunsTest(long seed) {
        random = new Random(seed);
    }

    public static void main(String[] args) throws ReflectiveOperationException {
        Due.is("calls of the face", CALLS.keySet().equals(Both.OURS.keySet()) ? 1 : 0, 1);
        int seed = 0;
        for (String name : CALLS.keySet()) {
            new LongRunsTest(seed++).overAndOver(name);
        }
        new LongRunsTest(1).wild();
        Due.end();
    }

    private static Map<String, int[]> calls() {
        Map<String, int[]> all = new TreeMap<>();
        for (String line : RANGES.split("\n")) {
            String[] words = line.split(" ");
            int[] ends = new int[words.length - 1];
            for (int i = 0; i < ends.length; i++) {
                ends[i] = Integer.parseInt(words[i + 1]);
            }
            all.put(words[0], ends);
        }
        return all;
    }

    private Object argument(String name, int parameter, int v) {
        boolean yesOrNo = Both.OURS.get(name).getParameterTypes()[parameter] == boolean.class;
        return yesOrNo ? (Object) (v % 2 == 0) : (Object) v;
    }

    /** Arguments that mean something; now and then one that does not. */
    private Object[] arguments(String name) {
        int[] ends = CALLS.get(name);
        Object[] all = new Object[ends.length / 2];
        for (int i = 0; i < all.length; i++) {
            long least = ends[2 * i];
            long most = ends[2 * i + 1];
            boolean off = random.nextInt(40) == 0;
            int v = (int) (off ? EDGES[random.nextInt(EDGES.length)] : least + (long) (random.nextDouble() * (most - least + 1)));
            all[i] = argument(name, i, v);
        }
        return all;
    }

    /** One call over and over on an object that has something of all, then a look at what has become of it. */
    private void overAndOver(String name) {
        Both both = new Both();
        busy(both);
        while (both.calls() < Both.CALLS - ASKED_LAST && !both.differs()) {
            both.call(name, arguments(name));
        }
        lastLook(both);
        while (both.calls() < Both.CALLS && !both.differs()) {
            both.call(name, arguments(name));
        }
        Due.is(name + " over and over: calls", both.calls(), Both.CALLS);
        Due.is(name + " over and over", both.differs() ? 1 : 0, 0);
    }

    private void busy(Both both) {
        int[] places = {33, 37, 73, 0, 116};
        for (int i = 0; i < places.length; i++) {
            both.call("person", places[i], 9 - i);
        }
        for (int i = 0; i < 8; i++) {
            both.call("move", i % 5, i % 6, 10 * (8 + i / 2) + 1 + i % 3, 10 * (i + 2) + i % 8, 10 * ((i + 1) % 5) + 1 + i % 3);
        }
        for (String text : new String[] {"late (9-s)/3+w", "bar b>88", "hours n*2"}) {
            for (int i = 0; i < text.length(); i += 12) {
                both.call("feed", Due.four(text, i), Due.four(text, i + 4), Due.four(text, i + 8));
            }
            both.call("trim", text.length());
            both.call("text");
        }
        both.call("weapon");
        both.call("weapon");
        both.call("out", 1, 2);
        both.call("sign", 1, 7);
        both.call("choose", 2);
        both.call("choose", 3);
        both.call("choose", 4);
        both.call("sheet", 0, 0, 9);
        both.call("sheet", 1, 1, 7);
        both.call("sheet", 2, 0, 5);
        both.call("mark", 0, 2, 1);
        both.call("lay", 0, 1, 4);
        both.call("lay", 1, 2, 0);
        both.call("lay", 2, 3, 77);
        both.call("show", 2);
        both.call("keep");
    }

    private void lastLook(Both both) {
        for (int i = 0; i <= 13; i++) {
            both.call("count", i);
        }
        for (int i = 0; i < 5; i++) {
            both.call("told", i, 2);
            both.call("where", i, 12);
        }
        for (String name : new String[] {"story", "may", "led", "clear", "restAll", "text", "keep", "back"}) {
            both.call(name);
        }
        for (int i = 0; i < 3; i++) {
            both.call("cuts", i);
            both.call("item", i, 2);
            both.call("lay", i, 0, 0);
        }
        both.call("breach", 1);
        both.call("unready", -1);
        both.call("check", 2);
        both.call("show", 1);
    }

    /** Anything at all, on two objects that get the same calls: none throws, and both answer alike. */
    private void wild() throws ReflectiveOperationException {
        List<String> names = new ArrayList<>(CALLS.keySet());
        Set<String> wrong = new TreeSet<>();
        StageFights one = new StageFights();
        StageFights other = new StageFights();
        for (int i = 0; i < WILD_CALLS; i++) {
            String name = names.get(random.nextInt(names.size()));
            Object[] args = random.nextInt(4) == 0 ? edges(name) : arguments(name);
            if (name.equals("back") && i % 7 != 0) {
                continue;
            }
            int got = (int) Both.OURS.get(name).invoke(one, args);
            if (got != (int) Both.OURS.get(name).invoke(other, args)) {
                wrong.add(name);
            }
            if (i % 3000 == 0) {
                one = new StageFights();
                other = new StageFights();
            }
        }
        Due.is("the same calls, other answers: " + wrong, wrong.size(), 0);
    }

    private Object[] edges(String name) {
        Object[] all = new Object[CALLS.get(name).length / 2];
        for (int i = 0; i < all.length; i++) {
            all[i] = argument(name, i, EDGES[random.nextInt(EDGES.length)]);
        }
        return all;
    }
}
