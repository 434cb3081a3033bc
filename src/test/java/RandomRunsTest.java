import java.util.ArrayList;
import java.util.List;
import java.util.Map;
import java.util.Random;
import java.util.TreeMap;

/** All promises: random runs of up to 512 calls on StageFights and on Plain, which must answer alike. */
public final class RandomRunsTest {
    private static final int RUNS = Integer.getInteger("runs", 3000);

    private final Random random;
    private final Both both = new Both();
    private final Plain y = both.plain;

    /** How often each answer came, so that a run that never gets anywhere is seen. */
    private static final Map<String, Integer> SEEN = new TreeMap<>();

    private RandomRunsTest(long seed) {
        random = new Random(seed);
    }

    public static void main(String[] args) {
        int wrong = 0;
        int calls = 0;
        for (int seed = 0; seed < RUNS && wrong < 3; seed++) {
            RandomRunsTest run = new RandomRunsTest(seed);
            run.go(seed);
            calls += run.both.calls();
            wrong += run.both.differs() ? 1 : 0;
        }
        System.out.println(RUNS + " runs, " + calls + " calls, " + wrong + " runs not as due");
        if (Boolean.getBoolean("tally")) {
            SEEN.forEach((answer, many) -> System.out.println(many + "\t" + answer));
        }
        String[] wanted = {"shifts NONE", "shift more", "understudy more", "understudy NONE", "text fault", "text FULL",
            "check 0", "check more", "may 0", "may 1", "may 2", "may 3", "gap below", "unready 1", "seen 0", "led more",
            "copy INDEX", "copy KIND", "move NO", "move FULL", "show FULL", "tell FULL", "out NO", "log NONE"};
        for (String answer : wanted) {
            if (!SEEN.containsKey(answer)) {
                System.out.println("never came: " + answer);
                wrong++;
            }
        }
        if (wrong != 0) {
            System.exit(1);
        }
    }

    private int pick(int least, int most) {
        return least + random.nextInt(most - least + 1);
    }

    private boolean one(int of) {
        return random.nextInt(of) == 0;
    }

    /** A number of a range, mostly; now and then its edge, or one far off. */
    private int num(int least, int most) {
        if (one(30)) {
            int[] off = {least - 1, most + 1, Integer.MIN_VALUE, Integer.MAX_VALUE, -1, least - 10, most + 10};
            return off[random.nextInt(off.length)];
        }
        return most < least ? least : pick(least, most);
    }

    private int call(String name, Object... args) {
        if (both.calls() >= Both.CALLS || both.differs()) {
            return 0;
        }
        int got = both.call(name, args);
        tally(name, got);
        return got;
    }

    private static void tally(String name, int got) {
        String[] names = {"BAD", "NO", "FULL", null, "NONE"};
        String[] findings = {"NOTHING", "KIND", "INDEX", "SIZE"};
        String sort;
        if (got <= -1000000001 && got >= -1000000005) {
            sort = names[-1000000001 - got];
        } else if (got <= -1000000011 && got >= -1000000014) {
            sort = findings[-1000000011 - got];
        } else if (name.equals("text") && got <= -100) {
            sort = "fault";
        } else if (name.equals("may") || got == 0 || name.equals("unready") && got == 1) {
            sort = Integer.toString(got);
        } else {
            sort = got < 0 ? "below" : "more";
        }
        SEEN.merge(name + " " + sort, 1, Integer::sum);
    }

    private int place() {
        return one(25) ? num(0, 127) : 10 * pick(0, 11) + pick(0, 7);
    }

    private int someone() {
        return num(0, y.count(0) - 1);
    }

    private int someMove() {
        return num(0, y.count(1) - 1);
    }

    /** Somebody walks past one who strikes: what then breaks can often be shifted. */
    private void passing() {
        call("person", 50 + pick(0, 7), pick(7, 9));
        call("person", one(2) ? pick(0, 7) : 110 + pick(0, 7), pick(7, 9));
        call("person", one(2) ? pick(0, 7) : 110 + pick(0, 7), pick(7, 9));
        call("move", 0, pick(2, 4), 10 * pick(6, 14) + pick(1, 4), 0, 10 * pick(1, 2) + pick(1, 3));
        call("move", 1, 1, 10 * pick(6, 10) + pick(1, 4), 10 * pick(0, 11) + pick(0, 7), pick(0, 9));
        call("move", 1, one(2) ? 1 : 5, 10 * pick(11, 16) + pick(1, 4), 10 * pick(0, 11) + pick(0, 7), pick(0, 9));
        call("move", 2, pick(1, 4), 10 * pick(6, 16) + pick(1, 4), 10 * pick(0, 11) + pick(0, 7), 10 + pick(0, 2));
        if (one(3)) {
            call("move", 0, pick(1, 4), 10 * (one(2) ? 90 : pick(10, 18)) + pick(1, 4), 10 * pick(0, 11), 10);
        }
        for (int i = 0; i < 3; i++) {
            call("choose", pick(0, y.count(1) - 1));
        }
        if (one(5)) {
            call("cut", pick(0, y.count(1) - 1), true);
        }
        for (int i = -1; i < 3; i++) {
            call("shifts", i);
        }
        call("understudy", someone(), num(0, 9), 0);
        call("understudy", someone(), num(0, 9), 1);
        if (call("shift") > 0) {
            call("breach", 0);
            for (int i = 0; i < y.count(1); i++) {
                call("of", i, 2);
            }
        }
    }

    private void go(int seed) {
        if (seed % 2 == 1) {
            passing();
            if (seed % 4 == 1) {
                return;
            }
        }
        int people = pick(0, 8);
        for (int i = 0; i < people; i++) {
            call("person", place(), num(seed % 3 == 0 ? 6 : 0, 9));
        }
        int moves = pick(0, seed % 4 == 0 ? 40 : 8);
        int spans = pick(1, 9);
        for (int i = 0; i < moves; i++) {
            move(spans);
        }
        int limit = pick(40, Both.CALLS);
        int mood = random.nextInt(6);
        for (int i = 0; i < Both.CALLS && both.calls() < limit && !both.differs(); i++) {
            act(one(3) ? random.nextInt(6) : mood, spans);
        }
        for (int i = 0; i < 14; i++) {
            call("count", i);
        }
    }

    private void move(int spans) {
        int time = one(25) ? num(0, 950) : 10 * pick(0, one(4) ? 90 : 20) + pick(1, 4);
        int aim = one(25) ? num(0, 90) : 10 * someone() + pick(0, one(5) ? 9 : spans);
        call("move", someone(), num(0, 5), time, place(), aim);
    }

    private void act(int mood, int spans) {
        switch (mood) {
            case 0: stage(spans); break;
            case 1: law(); break;
            case 2: shifts(); break;
            case 3: shows(); break;
            case 4: sheets(); break;
            default: rows(); break;
        }
    }

    private void stage(int spans) {
        switch (random.nextInt(16)) {
            case 0: call("person", place(), num(0, 9)); break;
            case 1: move(spans); break;
            case 2: call("told", someone(), num(0, 4)); break;
            case 3: call("set", someone(), num(1, 2), num(0, one(2) ? 9 : 99)); break;
            case 4: call("of", someMove(), num(0, 12)); break;
            case 5: call("as", someMove(), num(0, 5)); break;
            case 6: call("cut", someMove(), one(2)); break;
            case 7: call("wet", num(0, 1)); break;
            case 8: call("where", someone(), num(-9, one(2) ? 25 : 99)); break;
            case 9: case 10: call("gap", someMove(), someone()); break;
            case 11: call("keeps", someMove()); break;
            case 12: call("breach", num(0, 1)); break;
            case 13: call("sign", someone(), num(0, one(2) ? 22 : 99)); break;
            case 14: call("unready", one(2) ? -1 : someMove()); break;
            default:
                call("seen", someMove());
                call("story");
                break;
        }
    }

    private void law() {
        switch (random.nextInt(7)) {
            case 0: case 1: case 2: text(); break;
            case 3:
                call("feed", random.nextInt(), random.nextInt(), random.nextInt());
                call("trim", num(0, y.count(12)));
                break;
            case 4: call("textTold", num(0, y.count(5) - 1), num(0, 1)); break;
            case 5:
                call("hours", someone(), someone(), num(0, 1));
                call("practise", someone(), someone(), num(1, 99));
                break;
            default:
                call("may");
                for (int i = 0; i < 3; i++) {
                    call("told", someone(), 4);
                    call("of", someMove(), 12);
                    call("hours", someone(), someone(), 0);
                }
                break;
        }
    }

    private void text() {
        call("trim", 0);
        String[] keys = {"late", "bar", "hours"};
        int key = random.nextInt(3);
        StringBuilder all = new StringBuilder(blanks()).append(keys[key]);
        String e = one(4) ? chain(key) : expression(key, pick(0, 4));
        all.append(Character.isLetterOrDigit(e.charAt(0)) ? " " : blanks()).append(e).append(blanks());
        if (one(3)) {
            spoil(all);
        }
        if (all.length() > 96) {
            all.setLength(96);
        }
        String bytes = all.toString();
        for (int i = 0; i < bytes.length(); i += 12) {
            call("feed", Due.four(bytes, i), Due.four(bytes, i + 4), Due.four(bytes, i + 8));
        }
        call("trim", bytes.length());
        call("text");
    }

    private String blanks() {
        return " ".repeat(one(3) ? pick(0, 2) : 0);
    }

    private void spoil(StringBuilder all) {
        String signs = "()!&|<=>+-*/ stwkban019 XA#\t";
        for (int i = pick(1, 2); i > 0; i--) {
            char sign = one(12) ? (char) random.nextInt(256) : signs.charAt(random.nextInt(signs.length()));
            int at = random.nextInt(all.length());
            if (one(3)) {
                all.deleteCharAt(at);
            } else if (one(2)) {
                all.setCharAt(at, sign);
            } else {
                all.insert(at, sign);
            }
            if (all.length() == 0) {
                all.append(sign);
            }
        }
    }

    /** Many ( and ! at the edge of what may be open. */
    private String chain(int key) {
        StringBuilder front = new StringBuilder();
        StringBuilder behind = new StringBuilder();
        int parens = pick(6, 9);
        int nots = pick(6, 9);
        for (int i = parens + nots; i > 0; i--) {
            if (one(2) && parens > 0 || nots == 0) {
                front.append('(');
                behind.append(one(6) ? ")+1" : ")");
                parens--;
            } else {
                front.append('!');
                nots--;
            }
            if (parens + nots == 0) {
                break;
            }
        }
        return front.append(leaf(key)).append(behind).toString();
    }

    private String leaf(int key) {
        String[] names = {"stw", "ksba", "ns"};
        if (one(2)) {
            return Integer.toString(pick(0, one(3) ? one(3) ? 12000 : 100 : 9));
        }
        return names[key].charAt(random.nextInt(names[key].length())) + "";
    }

    private String expression(int key, int deep) {
        if (deep == 0) {
            return leaf(key);
        }
        String signs = "|&<=>+-*/+-*/";
        switch (random.nextInt(6)) {
            case 0: return "!" + blanks() + expression(key, deep - 1);
            case 1: return "(" + blanks() + expression(key, deep - 1) + blanks() + ")";
            case 2: return leaf(key);
            default:
                return expression(key, deep - 1) + blanks() + signs.charAt(random.nextInt(signs.length())) + blanks()
                    + expression(key, deep - 1);
        }
    }

    private void shifts() {
        switch (random.nextInt(8)) {
            case 0: call("clear"); break;
            case 1: case 2: call("choose", someMove()); break;
            case 3:
                call("choose", y.breach(0));
                call("choose", someMove());
                break;
            case 4: call("understudy", someone(), num(0, 9), num(0, 1)); break;
            case 5: call("shifts", num(-1, Math.min(3, y.count(6)) - 1)); break;
            case 6: call(one(3) ? "shift" : "clear"); break;
            default: solve(); break;
        }
    }

    /** Where one or two blows break, they are told: that is when cuts and shifts have something to do. */
    private void solve() {
        call("clear");
        List<Integer> breaking = new ArrayList<>();
        for (int m = 0; m < y.count(1); m++) {
            if (y.keeps(m) == 0 && y.of(m, 7) == 0) {
                breaking.add(m);
            }
        }
        for (int m : breaking) {
            if (breaking.size() > 6 || one(12)) {
                call("cut", m, true);
            } else {
                call("choose", m);
            }
        }
        if (one(2)) {
            call("choose", someMove());
        }
        call("understudy", someone(), num(0, 9), 0);
        call("understudy", someone(), num(0, 9), 1);
        if (breaking.size() > 2) {
            for (int m : breaking.subList(2, breaking.size())) {
                call("cut", m, true);
            }
        }
        call("shifts", -1);
        call("shifts", 0);
        call("shifts", 1);
        call("shifts", 2);
        call("shift");
        call("breach", 0);
    }

    private void shows() {
        switch (random.nextInt(11)) {
            case 0: call("weapon"); break;
            case 1: case 2: call("out", num(0, y.count(7) - 1), someone()); break;
            case 3: call("in", num(0, y.count(7) - 1)); break;
            case 4: call("wear", num(0, y.count(7) - 1), num(0, 2)); break;
            case 5: call("seed", one(2) ? random.nextInt() : pick(-3, 3)); break;
            case 6: case 7: call("show", one(9) ? 20 : num(1, 5)); break;
            case 8: call("restAll"); break;
            case 9: call("log", num(0, one(2) ? 29 : Math.max(0, y.count(10) - 1)), num(0, 2)); break;
            default:
                call("led");
                if (one(60)) {
                    for (int i = 0; i < 60; i++) {
                        call("show", 20);
                    }
                }
                break;
        }
    }

    private void sheets() {
        switch (random.nextInt(9)) {
            case 0: call("sheet", num(0, 3), num(one(4) ? -1 : 0, 1), num(0, one(2) ? 5 : 24)); break;
            case 1: case 2: call("mark", num(0, 3), num(0, one(3) ? 23 : 5), one(3) ? random.nextInt() : pick(-1, 2)); break;
            case 3: call("cuts", num(0, 3)); break;
            case 4: call("copy", num(0, 3), num(0, 5), num(0, 3), num(0, 5), num(0, 4)); break;
            case 5: call("lay", num(0, 4), num(0, 3), one(2) ? num(0, 3) : one(2) ? someMove() : random.nextInt()); break;
            case 6: call("ask", num(0, 4), num(0, 5)); break;
            case 7: call("item", num(0, 4), num(0, one(2) ? 5 : 24)); break;
            default: call("rest", num(0, 4), one(2) ? num(-3, 3) : random.nextInt()); break;
        }
    }

    private void rows() {
        switch (random.nextInt(7)) {
            case 0: call("keep"); break;
            case 1: call("back"); break;
            case 2: call("count", num(0, 13)); break;
            case 3: call("check", num(1, 20)); break;
            case 4:
                for (int i = one(30) ? 61 : pick(0, 3); i > 0; i--) {
                    call("tell", pick(0, 9));
                }
                break;
            default: tellShows(); break;
        }
    }

    /** The shows told as they are, by playing them from the image; now and then one number is off, or one too many. */
    private void tellShows() {
        call("check", 1);
        call("keep");
        int n = pick(1, one(4) ? 20 : 4);
        int wrong = one(2) ? pick(0, 2 * n) : -1;
        int many = one(4) ? pick(0, 2 * n + 2) : 2 * n;
        List<Integer> rows = new ArrayList<>();
        for (int i = 0; i < n; i++) {
            rows.add(call("show", 1));
            int sum = 0;
            for (int p = 0; p < y.count(0); p++) {
                sum += y.told(p, 2);
            }
            rows.add(sum);
        }
        for (int i = 0; i < many; i++) {
            call("tell", (i < rows.size() ? rows.get(i) : 0) + (i == wrong ? 1 : 0));
        }
        if (one(3)) {
            call("back");
        }
        call("check", n);
    }
}
