import java.util.ArrayList;
import java.util.Arrays;
import java.util.List;

/**
 * A second reading of the document, slow and plain, with the same face as StageFights: every lateness, every set of
 * cuts and every shift is tried one by one, and texts are read in another way. RandomRunsTest compares both.
 */
final class Plain {
    static final int BAD = Due.BAD, NO = Due.NO, FULL = Due.FULL, NONE = Due.NONE;
    static final int NOTHING = Due.NOTHING, KIND = Due.KIND, INDEX = Due.INDEX, SIZE = Due.SIZE;

    private static class One {
        int place, skill, tired;
    }

    private static class Act implements Cloneable {
        int person, kind, beat, length, to, aim, span;
        boolean cut;

        Act twin() {
            Act a = new Act();
            a.person = person;
            a.kind = kind;
            a.beat = beat;
            a.length = length;
            a.to = to;
            a.aim = aim;
            a.span = span;
            a.cut = cut;
            return a;
        }

        boolean has(int t) {
            return t >= beat && t < beat + length;
        }
    }

    private static class Law {
        int key, leaves;
        String e;
    }

    private static class World {
        List<One> people = new ArrayList<>();
        List<Act> acts = new ArrayList<>();
        List<int[]> signs = new ArrayList<>();
        List<Law> laws = new ArrayList<>();
        List<Integer> told = new ArrayList<>();
        List<int[]> weapons = new ArrayList<>();
        List<int[]> log = new ArrayList<>();
        int[][] hours = new int[8][8];
        int wet = 0, z = 1, shows = 0;

        World twin() {
            World w = new World();
            for (One p : people) {
                One q = new One();
                q.place = p.place;
                q.skill = p.skill;
                q.tired = p.tired;
                w.people.add(q);
            }
            for (Act a : acts) {
                w.acts.add(a.twin());
            }
            for (int[] s : signs) {
                w.signs.add(s.clone());
            }
            w.laws.addAll(laws);
            w.told.addAll(told);
            for (int[] s : weapons) {
                w.weapons.add(s.clone());
            }
            for (int[] s : log) {
                w.log.add(s.clone());
            }
            for (int i = 0; i < 8; i++) {
                w.hours[i] = hours[i].clone();
            }
            w.wet = wet;
            w.z = z;
            w.shows = shows;
            return w;
        }
    }

    private World w = new World();
    private World image = null;
    private final List<Byte> tape = new ArrayList<>();
    private final List<Integer> waits = new ArrayList<>();
    private final Object[] sheets = new Object[4];
    private final Object[] slots = new Object[5];

    // ---- kinds: what a kind does, or as the one above it

    private static int above(int kind) {
        return kind == 3 || kind == 4 ? 2 : 0;
    }

    private static boolean under(int kind, int other) {
        if (kind == other) {
            return true;
        }
        return kind != 0 && under(above(kind), other);
    }

    private static int reach(int kind) {
        switch (kind) {
            case 0: return 0;
            case 2: return 2;
            case 3: return reach(2) + 1;
            case 4: return reach(2) - 1;
            default: return reach(above(kind));
        }
    }

    private static int worth(int kind) {
        switch (kind) {
            case 0: return 0;
            case 1: return 1;
            case 2: return 5;
            case 3: return worth(2) + 2;
            case 4: return worth(2) / 2;
            case 5: return 4;
            default: return worth(above(kind));
        }
    }

    private static int tires(int kind) {
        switch (kind) {
            case 0: return 1;
            case 2: return tires(0) + 1;
            case 3: return tires(2) + 1;
            case 5: return 3;
            default: return tires(above(kind));
        }
    }

    private static int wears(int kind) {
        switch (kind) {
            case 0: return 0;
            case 2: return 1;
            case 3: return 2 * wears(2);
            case 4: return 0;
            default: return wears(above(kind));
        }
    }

    private static boolean blow(Act a) {
        return under(a.kind, 2);
    }

    // ---- people, moves

    private static boolean place(int p) {
        for (int x = 0; x <= 11; x++) {
            for (int y = 0; y <= 7; y++) {
                if (p == 10 * x + y) {
                    return true;
                }
            }
        }
        return false;
    }

    private boolean noPerson(int p) {
        return p < 0 || p >= w.people.size();
    }

    private boolean noMove(int m) {
        return m < 0 || m >= w.acts.size();
    }

    public int person(int place, int skill) {
        if (!place(place) || skill < 0 || skill > 9) {
            return BAD;
        }
        if (w.people.size() == 8) {
            return FULL;
        }
        One p = new One();
        p.place = place;
        p.skill = skill;
        w.people.add(p);
        return w.people.size() - 1;
    }

    private static int late(World w, int p) {
        One o = w.people.get(p);
        Law law = law(w, 0);
        int v = law == null ? (9 - o.skill) / 3 + o.tired / 25 + w.wet
            : value(law.e, "stw", o.skill, o.tired, w.wet);
        return v < 0 ? 0 : v > 3 ? 3 : v;
    }

    public int told(int person, int what) {
        if (noPerson(person)) {
            return BAD;
        }
        One o = w.people.get(person);
        if (what == 0) {
            return o.place;
        }
        if (what == 1) {
            return o.skill;
        }
        if (what == 2) {
            return o.tired;
        }
        if (what == 3) {
            for (int i = 0; i < w.weapons.size(); i++) {
                if (w.weapons.get(i)[1] == person) {
                    return i;
                }
            }
            return NONE;
        }
        return what == 4 ? late(w, person) : BAD;
    }

    public int set(int person, int what, int v) {
        if (noPerson(person) || v < 0) {
            return BAD;
        }
        One o = w.people.get(person);
        int was;
        if (what == 1 && v <= 9) {
            was = o.skill;
            o.skill = v;
            return was;
        }
        if (what == 2 && v <= 99) {
            was = o.tired;
            o.tired = v;
            return was;
        }
        return BAD;
    }

    private static boolean clash(List<Act> acts) {
        boolean[][] taken = new boolean[8][100];
        for (Act a : acts) {
            for (int t = a.beat; t < a.beat + a.length; t++) {
                if (taken[a.person][t]) {
                    return true;
                }
                taken[a.person][t] = true;
            }
        }
        return false;
    }

    public int move(int person, int kind, int time, int to, int aim) {
        if (noPerson(person) || kind < 0 || kind > 5 || !place(to)) {
            return BAD;
        }
        if (time < 0 || time / 10 > 90 || time % 10 < 1 || time % 10 > 4) {
            return BAD;
        }
        if (aim < 0 || noPerson(aim / 10) || aim / 10 == person) {
            return BAD;
        }
        if (w.acts.size() == 20) {
            return FULL;
        }
        Act a = new Act();
        a.person = person;
        a.kind = kind;
        a.beat = time / 10;
        a.length = time % 10;
        a.to = to;
        a.aim = aim / 10;
        a.span = aim % 10;
        w.acts.add(a);
        if (clash(w.acts)) {
            w.acts.remove(a);
            return NO;
        }
        return w.acts.size() - 1;
    }

    private static boolean barred(World w, Act a) {
        Law law = law(w, 1);
        return law != null
            && value(law.e, "ksba", a.kind, w.people.get(a.person).skill, a.beat, w.people.get(a.aim).skill) != 0;
    }

    public int of(int move, int what) {
        if (noMove(move)) {
            return BAD;
        }
        Act a = w.acts.get(move);
        int[] all = {a.person, a.kind, a.beat, a.length, a.to, a.aim, a.span, a.cut ? 1 : 0, reach(a.kind),
            worth(a.kind), tires(a.kind), wears(a.kind), barred(w, a) ? 1 : 0};
        return what < 0 || what >= all.length ? BAD : all[what];
    }

    public int as(int move, int kind) {
        if (noMove(move) || kind < 0 || kind > 5) {
            return BAD;
        }
        return under(w.acts.get(move).kind, kind) ? w.acts.get(move).span : KIND;
    }

    public int cut(int move, boolean is) {
        if (noMove(move)) {
            return BAD;
        }
        Act a = w.acts.get(move);
        int n = a.cut == is ? 0 : 1;
        a.cut = is;
        return n;
    }

    public int wet(int v) {
        if (v != 0 && v != 1) {
            return BAD;
        }
        int was = w.wet;
        w.wet = v;
        return was;
    }

    /** Walked beat by beat up to a beat: at each the step that is under way, from where it began; all stops are told. */
    private static int[] walk(World w, int person, int until) {
        int[] stops = new int[109];
        int at = w.people.get(person).place;
        int from = at;
        for (int t = -9; t <= until; t++) {
            for (Act a : w.acts) {
                if (a.person == person && !a.cut && (a.kind == 1 || a.kind == 5) && a.has(t)) {
                    if (t == a.beat) {
                        from = at;
                    }
                    int i = t - a.beat;
                    int x = from / 10 + (a.to / 10 - from / 10) * (i + 1) / a.length;
                    int y = from % 10 + (a.to % 10 - from % 10) * (i + 1) / a.length;
                    at = 10 * x + y;
                }
            }
            stops[t + 9] = at;
        }
        return stops;
    }

    private static int where(World w, int person, int beat) {
        return walk(w, person, beat)[beat + 9];
    }

    public int where(int person, int beat) {
        return noPerson(person) || beat < -9 || beat > 99 ? BAD : where(w, person, beat);
    }

    private static int distance(int a, int b) {
        return Math.max(Math.abs(a / 10 - b / 10), Math.abs(a % 10 - b % 10));
    }

    /** The ways of all, for beats -9 .. 99, so that each is walked only once. */
    private static int[][] ways(World w) {
        int[][] ways = new int[w.people.size()][];
        for (int p = 0; p < ways.length; p++) {
            ways[p] = walk(w, p, 99);
        }
        return ways;
    }

    private static int gap(World w, int[][] ways, Act a, int person) {
        int least = 1000;
        for (int d = 0; d <= late(w, a.person); d++) {
            for (int e = 0; e <= late(w, person); e++) {
                for (int i = 0; i < a.length; i++) {
                    int t = a.beat + i + d;
                    least = Math.min(least, distance(ways[a.person][t - d + 9], ways[person][t - e + 9]) - reach(a.kind));
                }
            }
        }
        return least;
    }

    private static int tooNear(World w, int[][] ways, Act a) {
        for (int p = 0; p < w.people.size(); p++) {
            if (p != a.person && gap(w, ways, a, p) < (p == a.aim ? a.span / 2 : a.span)) {
                return p;
            }
        }
        return NONE;
    }

    private static int breach(World w, int[][] ways) {
        for (int m = 0; m < w.acts.size(); m++) {
            Act a = w.acts.get(m);
            if (blow(a) && !a.cut && tooNear(w, ways, a) != NONE) {
                return m;
            }
        }
        return NONE;
    }

    private static boolean breaks(World w) {
        return breach(w, ways(w)) != NONE;
    }

    public int gap(int move, int person) {
        if (noMove(move) || noPerson(person)) {
            return BAD;
        }
        Act a = w.acts.get(move);
        if (!blow(a)) {
            return KIND;
        }
        return a.person == person ? NO : gap(w, ways(w), a, person);
    }

    private int noBlow(int move) {
        return noMove(move) ? BAD : blow(w.acts.get(move)) ? 0 : KIND;
    }

    public int keeps(int move) {
        return noBlow(move) != 0 ? noBlow(move) : tooNear(w, ways(w), w.acts.get(move)) == NONE ? 1 : 0;
    }

    public int breach(int what) {
        if (what != 0 && what != 1) {
            return BAD;
        }
        int m = breach(w, ways(w));
        return m == NONE || what == 0 ? m : tooNear(w, ways(w), w.acts.get(m));
    }

    public int sign(int person, int beat) {
        if (noPerson(person) || beat < 0 || beat > 99) {
            return BAD;
        }
        if (w.signs.size() == 20) {
            return FULL;
        }
        w.signs.add(new int[] {person, beat});
        return w.signs.size();
    }

    private boolean unready(Act a) {
        for (int[] s : w.signs) {
            for (int ahead = 1; ahead <= 3; ahead++) {
                if (s[0] == a.aim && s[1] == a.beat - ahead) {
                    return false;
                }
            }
        }
        return true;
    }

    public int unready(int move) {
        if (move == -1) {
            int n = 0;
            for (Act a : w.acts) {
                n += blow(a) && !a.cut && unready(a) ? 1 : 0;
            }
            return n;
        }
        return noBlow(move) != 0 ? noBlow(move) : unready(w.acts.get(move)) ? 1 : 0;
    }

    private boolean seen(Act a) {
        int here = where(w, a.person, a.beat);
        for (int p = 0; p < w.people.size(); p++) {
            int there = where(w, p, a.beat);
            if (p != a.person && p != a.aim && there / 10 == here / 10 && there % 10 > here % 10) {
                return false;
            }
        }
        return true;
    }

    public int seen(int move) {
        return noBlow(move) != 0 ? noBlow(move) : seen(w.acts.get(move)) ? 1 : 0;
    }

    public int story() {
        int sum = 0;
        for (Act a : w.acts) {
            sum += a.cut || blow(a) && !seen(a) ? 0 : worth(a.kind);
        }
        return sum;
    }

    // ---- law

    public int feed(int a, int b, int c) {
        if (tape.size() + 12 > 96) {
            return FULL;
        }
        for (int v : new int[] {a, b, c}) {
            tape.add((byte) (v >>> 24));
            tape.add((byte) (v >>> 16));
            tape.add((byte) (v >>> 8));
            tape.add((byte) v);
        }
        return tape.size();
    }

    public int trim(int n) {
        if (n < 0 || n > tape.size()) {
            return BAD;
        }
        while (tape.size() > n) {
            tape.remove(tape.size() - 1);
        }
        return n;
    }

    private static boolean letter(char c) {
        return c >= 'a' && c <= 'z';
    }

    private static boolean digit(char c) {
        return c >= '0' && c <= '9';
    }

    /** Words and signs, each with its place; a word right behind another one is told as "??". */
    private static List<Object[]> words(String s) {
        List<Object[]> all = new ArrayList<>();
        int i = 0;
        boolean word = false;
        while (i < s.length()) {
            char c = s.charAt(i);
            int j = i + 1;
            if (c == ' ') {
                word = false;
                i++;
                continue;
            }
            boolean here = letter(c) || digit(c);
            while (here && j < s.length() && (letter(c) ? letter(s.charAt(j)) : digit(s.charAt(j)))) {
                j++;
            }
            all.add(new Object[] {here && word ? "??" : s.substring(i, j), i});
            word = here;
            i = j;
        }
        return all;
    }

    private static final String[] KEYS = {"late", "bar", "hours"};
    private static final String[] NAMES = {"stw", "ksba", "ns"};

    /** -1, or the place of the fault: seen word by word, by what may come next. */
    private static int fault(String s, Law law) {
        List<Object[]> words = words(s);
        if (words.isEmpty()) {
            return s.length();
        }
        law.key = Arrays.asList(KEYS).indexOf((String) words.get(0)[0]);
        if (law.key < 0) {
            return (int) words.get(0)[1];
        }
        boolean operand = true;
        List<Integer> nots = new ArrayList<>(List.of(0));
        List<Boolean> tested = new ArrayList<>(List.of(false));
        int ahead = 0;
        for (int i = 1; i < words.size(); i++) {
            String t = (String) words.get(i)[0];
            int place = (int) words.get(i)[1];
            int open = tested.size() - 1;
            int notsOpen = ahead;
            for (int n : nots) {
                notsOpen += n;
            }
            if (operand) {
                boolean number = digit(t.charAt(0)) && t.length() <= 4;
                boolean name = t.length() == 1 && letter(t.charAt(0)) && NAMES[law.key].contains(t);
                if (number || name) {
                    law.leaves++;
                    operand = false;
                    ahead = 0;
                } else if (t.equals("!") && notsOpen < 8) {
                    ahead++;
                } else if (t.equals("(") && open < 8) {
                    nots.add(ahead);
                    tested.add(false);
                    ahead = 0;
                } else {
                    return place;
                }
            } else if (t.equals("|") || t.equals("&")) {
                tested.set(open, false);
                operand = true;
            } else if (t.equals("<") || t.equals("=") || t.equals(">")) {
                if (tested.get(open)) {
                    return place;
                }
                tested.set(open, true);
                operand = true;
            } else if (t.length() == 1 && "+-*/".contains(t)) {
                operand = true;
            } else if (t.equals(")") && open > 0) {
                nots.remove(nots.size() - 1);
                tested.remove(open);
            } else {
                return place;
            }
        }
        if (operand || tested.size() > 1) {
            return s.length();
        }
        return -1;
    }

    public int text() {
        StringBuilder b = new StringBuilder();
        for (byte one : tape) {
            b.append((char) (one & 255));
        }
        tape.clear();
        String s = b.toString();
        Law law = new Law();
        int fault = fault(s, law);
        if (fault >= 0) {
            return -100 - fault;
        }
        if (w.laws.size() == 14) {
            return FULL;
        }
        law.e = s.trim().substring(KEYS[law.key].length()).replace(" ", "");
        w.laws.add(law);
        return w.laws.size() - 1;
    }

    /** Worked out by splitting at the last of the loosest signs outside all brackets. */
    private static int value(String e, String names, int... values) {
        for (String signs : new String[] {"|", "&", "<=>", "+-", "*/"}) {
            int open = 0;
            for (int i = e.length() - 1; i > 0; i--) {
                char c = e.charAt(i);
                open += c == ')' ? 1 : c == '(' ? -1 : 0;
                if (open == 0 && signs.indexOf(c) >= 0) {
                    int a = value(e.substring(0, i), names, values);
                    int b = value(e.substring(i + 1), names, values);
                    switch (c) {
                        case '|': return a != 0 || b != 0 ? 1 : 0;
                        case '&': return a != 0 && b != 0 ? 1 : 0;
                        case '<': return a < b ? 1 : 0;
                        case '=': return a == b ? 1 : 0;
                        case '>': return a > b ? 1 : 0;
                        case '+': return a + b;
                        case '-': return a - b;
                        case '*': return a * b;
                        default: return b == 0 ? 0 : a / b;
                    }
                }
            }
        }
        char c = e.charAt(0);
        if (c == '!') {
            return value(e.substring(1), names, values) == 0 ? 1 : 0;
        }
        if (c == '(') {
            return value(e.substring(1, e.length() - 1), names, values);
        }
        return letter(c) ? values[names.indexOf(c)] : Integer.parseInt(e);
    }

    private static Law law(World w, int key) {
        Law last = null;
        for (Law law : w.laws) {
            if (law.key == key) {
                last = law;
            }
        }
        return last;
    }

    public int textTold(int text, int what) {
        if (text < 0 || text >= w.laws.size() || what < 0 || what > 1) {
            return BAD;
        }
        return what == 0 ? w.laws.get(text).key : w.laws.get(text).leaves;
    }

    private int need(int one, int other) {
        int n = 0;
        for (Act a : w.acts) {
            if (blow(a) && !a.cut && (a.person == one && a.aim == other || a.person == other && a.aim == one)) {
                n++;
            }
        }
        int s = Math.min(w.people.get(one).skill, w.people.get(other).skill);
        Law law = law(w, 2);
        return law == null ? n * (10 - s) : Math.max(0, Math.min(99, value(law.e, "ns", n, s)));
    }

    public int hours(int one, int other, int what) {
        if (noPerson(one) || noPerson(other) || one == other || what != 0 && what != 1) {
            return BAD;
        }
        return what == 0 ? need(one, other) : w.hours[Math.min(one, other)][Math.max(one, other)];
    }

    public int practise(int one, int other, int n) {
        if (noPerson(one) || noPerson(other) || one == other || n < 1 || n > 99) {
            return BAD;
        }
        int[] row = w.hours[Math.min(one, other)];
        int place = Math.max(one, other);
        row[place] = Math.min(99, row[place] + n);
        return row[place];
    }

    public int may() {
        if (breaks(w)) {
            return 1;
        }
        for (Act a : w.acts) {
            if (!a.cut && barred(w, a)) {
                return 2;
            }
        }
        for (int i = 0; i < w.people.size(); i++) {
            for (int j = 0; j < i; j++) {
                if (hours(i, j, 1) < need(i, j)) {
                    return 3;
                }
            }
        }
        return 0;
    }

    // ---- understudies, shifts

    public int choose(int move) {
        if (noMove(move)) {
            return BAD;
        }
        if (w.told.contains(move)) {
            return NO;
        }
        if (w.told.size() == 6) {
            return FULL;
        }
        w.told.add(move);
        return w.told.size();
    }

    public int clear() {
        int n = w.told.size();
        w.told.clear();
        return n;
    }

    public int understudy(int person, int skill, int what) {
        if (noPerson(person) || skill < 0 || skill > 9 || what < 0 || what > 1) {
            return BAD;
        }
        int best = NONE, bestFew = 99, bestWorth = 999;
        for (int bits = 0; bits < 1 << w.told.size(); bits++) {
            World t = w.twin();
            t.people.get(person).skill = skill;
            boolean fits = true;
            int sum = 0;
            for (int i = 0; i < w.told.size(); i++) {
                if ((bits >> i & 1) == 1) {
                    Act a = t.acts.get(w.told.get(i));
                    fits &= blow(a) && !a.cut;
                    sum += worth(a.kind);
                    a.cut = true;
                }
            }
            int few = Integer.bitCount(bits);
            if (fits && (few < bestFew || few == bestFew && sum < bestWorth) && !breaks(t)) {
                best = bits;
                bestFew = few;
                bestWorth = sum;
            }
        }
        return best == NONE ? NONE : what == 0 ? best : bestWorth;
    }

    private int[] seek() {
        int many = Math.min(3, w.told.size());
        int[] most = {many > 0 ? 5 : 0, many > 1 ? 5 : 0, many > 2 ? 5 : 0};
        int[] best = null;
        World t = w.twin();
        for (int a = 0; a <= most[0]; a++) {
            for (int b = 0; b <= most[1]; b++) {
                for (int c = 0; c <= most[2]; c++) {
                    int[] by = {a, b, c};
                    if (best == null || a + b + c < best[0] + best[1] + best[2]) {
                        boolean fits = true;
                        for (int i = 0; i < many; i++) {
                            Act act = t.acts.get(w.told.get(i));
                            act.beat = w.acts.get(w.told.get(i)).beat + by[i];
                            fits &= act.beat <= 90;
                        }
                        if (fits && !clash(t.acts) && !breaks(t)) {
                            best = by;
                        }
                    }
                }
            }
        }
        return best;
    }

    public int shifts(int what) {
        if (what < -1 || what > 2 || what >= w.told.size()) {
            return BAD;
        }
        int[] by = seek();
        return by == null ? NONE : what == -1 ? by[0] + by[1] + by[2] : by[what];
    }

    public int shift() {
        int[] by = seek();
        if (by == null) {
            return NONE;
        }
        for (int i = 0; i < Math.min(3, w.told.size()); i++) {
            w.acts.get(w.told.get(i)).beat += by[i];
        }
        return by[0] + by[1] + by[2];
    }

    // ---- weapons, shows

    private boolean noWeapon(int weapon) {
        return weapon < 0 || weapon >= w.weapons.size();
    }

    public int weapon() {
        if (w.weapons.size() == 6) {
            return FULL;
        }
        w.weapons.add(new int[] {0, NONE});
        return w.weapons.size() - 1;
    }

    public int out(int weapon, int person) {
        if (noWeapon(weapon) || noPerson(person)) {
            return BAD;
        }
        int[] one = w.weapons.get(weapon);
        if (one[1] != NONE || one[0] > 20 || told(person, 3) != NONE) {
            return NO;
        }
        one[1] = person;
        return 1;
    }

    public int in(int weapon) {
        if (noWeapon(weapon)) {
            return BAD;
        }
        int had = w.weapons.get(weapon)[1];
        w.weapons.get(weapon)[1] = NONE;
        return had == NONE ? NO : had;
    }

    public int wear(int weapon, int what) {
        if (noWeapon(weapon) || what < 0 || what > 2) {
            return BAD;
        }
        int[] one = w.weapons.get(weapon);
        return what == 0 ? one[0] : what == 1 ? one[1] : one[0] > 20 ? 1 : 0;
    }

    public int seed(int v) {
        int was = w.z;
        w.z = v;
        return was;
    }

    private static int play(World w) {
        int[] late = new int[8];
        for (int p = 0; p < w.people.size(); p++) {
            w.z = w.z * 1103515245 + 12345;
            late[p] = (w.z >>> 8) % (late(w, p) + 1);
        }
        int[][] ways = ways(w);
        int misses = 0;
        for (int m = 0; m < w.acts.size(); m++) {
            Act a = w.acts.get(m);
            for (int p = 0; p < w.people.size() && blow(a) && !a.cut; p++) {
                boolean miss = false;
                for (int i = 0; i < a.length && p != a.person; i++) {
                    int t = a.beat + i + late[a.person];
                    int far = distance(ways[a.person][t - late[a.person] + 9], ways[p][t - late[p] + 9]);
                    miss |= far - reach(a.kind) < (p == a.aim ? a.span / 2 : a.span);
                }
                if (miss) {
                    misses++;
                    if (w.log.size() < 30) {
                        w.log.add(new int[] {w.shows, m, p});
                    }
                }
            }
        }
        for (Act a : w.acts) {
            if (!a.cut) {
                One o = w.people.get(a.person);
                o.tired = Math.min(99, o.tired + tires(a.kind));
                for (int[] one : w.weapons) {
                    if (one[1] == a.person) {
                        one[0] = Math.min(99, one[0] + wears(a.kind));
                    }
                }
            }
        }
        w.shows++;
        return misses;
    }

    public int show(int n) {
        if (n < 1 || n > 20) {
            return BAD;
        }
        if (w.shows > 999 - n) {
            return FULL;
        }
        int sum = 0;
        for (int i = 0; i < n; i++) {
            sum += play(w);
        }
        return sum;
    }

    public int restAll() {
        int n = 0;
        for (One o : w.people) {
            o.tired = o.tired < 10 ? 0 : o.tired - 10;
            n += o.tired == 0 ? 0 : 1;
        }
        return n;
    }

    public int log(int i, int what) {
        if (what < 0 || what > 2 || i < 0) {
            return BAD;
        }
        return i >= w.log.size() ? NONE : w.log.get(i)[what];
    }

    public int led() {
        int best = NONE, most = 0;
        for (int m = 0; m < 20; m++) {
            int n = 0;
            for (int[] row : w.log) {
                n += row[1] == m ? 1 : 0;
            }
            if (n > most) {
                best = m;
                most = n;
            }
        }
        return best;
    }

    // ---- sheets, slots

    private static boolean noSheet(int sheet) {
        return sheet < 0 || sheet > 3;
    }

    private static int size(Object sheet) {
        return sheet instanceof byte[] ? ((byte[]) sheet).length : ((boolean[]) sheet).length;
    }

    private static int cell(Object sheet, int place) {
        return sheet instanceof byte[] ? ((byte[]) sheet)[place] : ((boolean[]) sheet)[place] ? 1 : 0;
    }

    public int sheet(int sheet, int sort, int n) {
        if (noSheet(sheet) || sort < -1 || sort > 1) {
            return BAD;
        }
        if (sort == -1) {
            sheets[sheet] = null;
            return 0;
        }
        if (n > 24) {
            return BAD;
        }
        if (n < 0) {
            return SIZE;
        }
        sheets[sheet] = sort == 0 ? (Object) new byte[n] : new boolean[n];
        return n;
    }

    public int mark(int sheet, int place, int v) {
        if (noSheet(sheet)) {
            return BAD;
        }
        if (sheets[sheet] == null) {
            return NOTHING;
        }
        if (place < 0 || place >= size(sheets[sheet])) {
            return INDEX;
        }
        int was = cell(sheets[sheet], place);
        if (sheets[sheet] instanceof byte[]) {
            ((byte[]) sheets[sheet])[place] = (byte) v;
        } else {
            ((boolean[]) sheets[sheet])[place] = v != 0;
        }
        return was;
    }

    public int cuts(int sheet) {
        if (noSheet(sheet)) {
            return BAD;
        }
        if (sheets[sheet] == null) {
            return NOTHING;
        }
        int n = 0;
        for (int i = 0; i < size(sheets[sheet]) && i < w.acts.size(); i++) {
            n += cut(i, cell(sheets[sheet], i) != 0);
        }
        return n;
    }

    /** As the library copies, with its refusals. */
    public int copy(int from, int place, int to, int at, int many) {
        if (noSheet(from) || noSheet(to)) {
            return BAD;
        }
        try {
            System.arraycopy(sheets[from], place, sheets[to], at, many);
        } catch (NullPointerException none) {
            return NOTHING;
        } catch (ArrayStoreException other) {
            return KIND;
        } catch (IndexOutOfBoundsException outside) {
            return INDEX;
        }
        return many;
    }

    public int lay(int slot, int thing, int k) {
        if (slot < 0 || slot > 4 || thing < 0 || thing > 3) {
            return BAD;
        }
        if (thing == 1 && noMove(k) || thing == 2 && noSheet(k)) {
            return BAD;
        }
        if (thing == 2 && sheets[k] == null) {
            return NOTHING;
        }
        Object was = slots[slot];
        if (thing == 0) {
            slots[slot] = null;
        } else if (thing == 1) {
            slots[slot] = w.acts.get(k).twin();
        } else if (thing == 2) {
            slots[slot] = sheets[k] instanceof byte[] ? ((byte[]) sheets[k]).clone() : ((boolean[]) sheets[k]).clone();
        } else {
            slots[slot] = k;
        }
        return was == null ? 0 : was instanceof Act ? 1 : was instanceof Integer ? 3 : 2;
    }

    public int ask(int slot, int kind) {
        if (slot < 0 || slot > 4 || kind < 0 || kind > 5) {
            return BAD;
        }
        if (slots[slot] == null) {
            return NOTHING;
        }
        if (!(slots[slot] instanceof Act)) {
            return KIND;
        }
        Act a = (Act) slots[slot];
        return under(a.kind, kind) ? worth(a.kind) : KIND;
    }

    public int item(int slot, int place) {
        if (slot < 0 || slot > 4) {
            return BAD;
        }
        if (slots[slot] == null) {
            return NOTHING;
        }
        if (slots[slot] instanceof Act || slots[slot] instanceof Integer) {
            return KIND;
        }
        return place < 0 || place >= size(slots[slot]) ? INDEX : cell(slots[slot], place);
    }

    public int rest(int slot, int n) {
        if (slot < 0 || slot > 4) {
            return BAD;
        }
        if (slots[slot] == null) {
            return NOTHING;
        }
        if (!(slots[slot] instanceof Integer)) {
            return KIND;
        }
        return n == 0 ? NO : (int) ((long) (Integer) slots[slot] % n);
    }

    // ---- rows, images

    public int tell(int v) {
        if (waits.size() == 60) {
            return FULL;
        }
        waits.add(v);
        return waits.size();
    }

    public int check(int n) {
        List<Integer> were = new ArrayList<>(waits);
        waits.clear();
        if (n < 1 || n > 20) {
            return BAD;
        }
        if (image == null) {
            return NO;
        }
        World t = image.twin();
        List<Integer> due = new ArrayList<>();
        for (int i = 0; i < n; i++) {
            due.add(play(t));
            int sum = 0;
            for (One o : t.people) {
                sum += o.tired;
            }
            due.add(sum);
        }
        if (were.equals(due)) {
            return 0;
        }
        int right = 0;
        while (right < were.size() && right < due.size() && were.get(right).equals(due.get(right))) {
            right++;
        }
        return right + 1;
    }

    public int keep() {
        image = w.twin();
        return w.shows;
    }

    public int back() {
        if (image == null) {
            return NO;
        }
        w = image.twin();
        return w.shows;
    }

    public int count(int what) {
        int cut = 0, blows = 0, out = 0;
        for (Act a : w.acts) {
            cut += a.cut ? 1 : 0;
            blows += blow(a) ? 1 : 0;
        }
        for (int[] one : w.weapons) {
            out += one[1] == NONE ? 0 : 1;
        }
        int[] all = {w.people.size(), w.acts.size(), cut, blows, w.signs.size(), w.laws.size(), w.told.size(),
            w.weapons.size(), out, w.shows, w.log.size(), waits.size(), tape.size(), w.z};
        return what < 0 || what >= all.length ? BAD : all[what];
    }
}
