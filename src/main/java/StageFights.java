import java.util.Arrays;

/** Fights on a stage, laid beat by beat so that they hurt nobody. ../shared/DOC.md says what each call answers. */
public final class StageFights {
    public static final int BAD = -1000000001, NO = -1000000002, FULL = -1000000003, NONE = -1000000005, NOTHING = -1000000011, KIND = -1000000012, INDEX = -1000000013, SIZE = -1000000014;

    private static final int PEOPLE = 8;
    private static final int MOVES = 20;
    private static final int SIGNS = 20;
    private static final int TEXTS = 14;
    private static final int CHOSEN = 6;
    private static final int WEAPONS = 6;
    private static final int LOGGED = 30;
    private static final int SHOWS = 999;
    private static final int ROW_OF_SHOWS = 20;
    private static final int SHEETS = 4;
    private static final int CELLS = 24;
    private static final int SLOTS = 5;
    private static final int WAITING = 60;
    private static final int TAPE = 96;

    private static final int SKILLED = 9;
    private static final int LATEST = 3;
    private static final int MOST = 99;
    private static final int LAST_BEAT = 90;
    private static final int DULL_ABOVE = 20;
    private static final int RESTED = 10;
    private static final int SHIFTED = 3;
    private static final int FARTHEST = 5;
    private static final int DEEPEST = 8;

    // One spot for all beats below 0, and one for each of the beats 0 .. 99.
    private static final int SPOTS = 101;

    // Farther than any two places are from each other.
    private static final int FARTHER = 99;

    private static final int MOVE_KIND = 0;
    private static final int BLOW_KIND = 2;
    private static final int LAST_KIND = 5;

    // By KIND: MOVE, STEP, BLOW, THRUST, FEINT, FALL.
    private static final int[] ABOVE = {-1, 0, 0, 2, 2, 0};
    private static final int[] REACH = {0, 0, 2, 3, 1, 0};
    private static final int[] WORTH = {0, 1, 5, 7, 2, 4};
    private static final int[] TIRES = {1, 1, 2, 3, 2, 3};
    private static final int[] WEARS = {0, 0, 1, 2, 0, 0};
    private static final int[] GOES = {0, 1, 0, 0, 0, 1};

    private static final int LATE_KEY = 0;
    private static final int BAR_KEY = 1;
    private static final int HOURS_KEY = 2;

    // A step of a text's code is a number (0 .. 9999), NAMED and a name's place, or JOINED and a sign.
    private static final int NAMED = 10000;
    private static final int JOINED = 20000;

    private static final int MISSING = -1;

    private static final int NO_THING = 0;
    private static final int MOVE_THING = 1;
    private static final int SHEET_THING = 2;
    private static final int NUMBER_THING = 3;

    private final Scene now = new Scene();
    private final Scene image = new Scene();
    private final Scene trial = new Scene();
    private final Stage stage = new Stage(now);
    private final Shifter shifter = new Shifter(trial, stage);
    private final byte[] tape = new byte[TAPE];
    private final Reader reader = new Reader(tape);
    private final int[] waiting = new int[WAITING];
    private final Sheet[] sheets = new Sheet[SHEETS];
    private final Slot[] slots = new Slot[SLOTS];
    private int tapeLength = 0;
    private int waitingCount = 0;
    private boolean imageKept = false;

    public StageFights() {
        for (int i = 0; i < SHEETS; i++) {
            sheets[i] = new Sheet();
        }
        for (int i = 0; i < SLOTS; i++) {
            slots[i] = new Slot();
        }
    }

    // ---- people, moves

    public int person(int place, int skill) {
        if (!isPlace(place) || !isWithin(skill, 0, SKILLED)) {
            return BAD;
        }
        if (now.peopleCount >= PEOPLE) {
            return FULL;
        }
        return now.addPerson(place, skill);
    }

    public int told(int person, int what) {
        if (!now.hasPerson(person) || !isWithin(what, 0, 4)) {
            return BAD;
        }
        Person one = now.people[person];
        switch (what) {
            case 0:
                return one.start;
            case 1:
                return one.skill;
            case 2:
                return one.tired;
            case 3:
                return now.weaponOf(person);
            default:
                return now.lateOf(person);
        }
    }

    public int set(int person, int what, int v) {
        if (!now.hasPerson(person) || !isWithin(what, 1, 2)) {
            return BAD;
        }
        if (!isWithin(v, 0, what == 1 ? SKILLED : MOST)) {
            return BAD;
        }
        Person one = now.people[person];
        int was = what == 1 ? one.skill : one.tired;
        if (what == 1) {
            one.skill = v;
        } else {
            one.tired = v;
        }
        return was;
    }

    public int move(int person, int kind, int time, int to, int aim) {
        if (!now.hasPerson(person) || !isKind(kind) || !isTime(time) || !isPlace(to)) {
            return BAD;
        }
        if (aim < 0 || !now.hasPerson(aim / 10) || aim / 10 == person) {
            return BAD;
        }
        if (now.moveCount >= MOVES) {
            return FULL;
        }
        Move fresh = now.moves[now.moveCount];
        fresh.become(person, kind, time, to, aim);
        if (now.meetsAnother(now.moveCount)) {
            return NO;
        }
        now.moveCount++;
        return now.moveCount - 1;
    }

    public int of(int move, int what) {
        if (!now.hasMove(move) || !isWithin(what, 0, 12)) {
            return BAD;
        }
        Move one = now.moves[move];
        switch (what) {
            case 8:
                return REACH[one.kind];
            case 9:
                return WORTH[one.kind];
            case 10:
                return TIRES[one.kind];
            case 11:
                return WEARS[one.kind];
            case 12:
                return asInt(now.isBarred(one));
            default:
                return one.part(what);
        }
    }

    public int as(int move, int kind) {
        if (!now.hasMove(move) || !isKind(kind)) {
            return BAD;
        }
        Move one = now.moves[move];
        return isOfKind(one.kind, kind) ? one.span : KIND;
    }

    public int cut(int move, boolean is) {
        if (!now.hasMove(move)) {
            return BAD;
        }
        return asInt(now.moves[move].becomeCut(is));
    }

    public int wet(int v) {
        if (!isWithin(v, 0, 1)) {
            return BAD;
        }
        int was = now.wet;
        now.wet = v;
        return was;
    }

    public int where(int person, int beat) {
        if (!now.hasPerson(person) || !isWithin(beat, -9, 99)) {
            return BAD;
        }
        stage.look(now);
        return stage.placeAt(person, beat);
    }

    public int gap(int move, int person) {
        if (!now.hasMove(move) || !now.hasPerson(person)) {
            return BAD;
        }
        Move blow = now.moves[move];
        if (!blow.isBlow()) {
            return KIND;
        }
        if (blow.person == person) {
            return NO;
        }
        stage.look(now);
        return stage.gapTo(blow, person);
    }

    public int keeps(int move) {
        int refusal = refusalOfBlow(move);
        if (refusal != 0) {
            return refusal;
        }
        stage.look(now);
        return asInt(stage.tooNearTo(now.moves[move]) == NONE);
    }

    public int breach(int what) {
        if (!isWithin(what, 0, 1)) {
            return BAD;
        }
        stage.look(now);
        int blow = stage.firstBreach();
        if (blow == NONE || what == 0) {
            return blow;
        }
        return stage.tooNearTo(now.moves[blow]);
    }

    public int sign(int person, int beat) {
        if (!now.hasPerson(person) || !isWithin(beat, 0, 99)) {
            return BAD;
        }
        if (now.signCount >= SIGNS) {
            return FULL;
        }
        now.signPerson[now.signCount] = person;
        now.signBeat[now.signCount] = beat;
        now.signCount++;
        return now.signCount;
    }

    public int unready(int move) {
        if (move == -1) {
            return now.unreadyBlows();
        }
        int refusal = refusalOfBlow(move);
        return refusal != 0 ? refusal : asInt(now.isUnready(now.moves[move]));
    }

    public int seen(int move) {
        int refusal = refusalOfBlow(move);
        if (refusal != 0) {
            return refusal;
        }
        stage.look(now);
        return asInt(stage.isSeen(now.moves[move]));
    }

    public int story() {
        stage.look(now);
        int sum = 0;
        for (int i = 0; i < now.moveCount; i++) {
            Move one = now.moves[i];
            if (!one.cut && (!one.isBlow() || stage.isSeen(one))) {
                sum += WORTH[one.kind];
            }
        }
        return sum;
    }

    // ---- law

    public int feed(int a, int b, int c) {
        if (tapeLength + 12 > TAPE) {
            return FULL;
        }
        feedOne(a);
        feedOne(b);
        feedOne(c);
        return tapeLength;
    }

    public int trim(int n) {
        if (!isWithin(n, 0, tapeLength)) {
            return BAD;
        }
        tapeLength = n;
        return n;
    }

    public int text() {
        Text told = reader.read(tapeLength);
        tapeLength = 0;
        if (told == null) {
            return -100 - reader.at;
        }
        if (now.textCount >= TEXTS) {
            return FULL;
        }
        now.texts[now.textCount] = told;
        now.textCount++;
        return now.textCount - 1;
    }

    public int textTold(int text, int what) {
        if (!isWithin(text, 0, now.textCount - 1) || !isWithin(what, 0, 1)) {
            return BAD;
        }
        Text one = now.texts[text];
        if (one == null) {
            return BAD;
        }
        return what == 0 ? one.key : one.leaves;
    }

    public int hours(int one, int other, int what) {
        if (!now.areTwo(one, other) || !isWithin(what, 0, 1)) {
            return BAD;
        }
        return what == 0 ? now.hoursNeeded(one, other) : now.practised[one * PEOPLE + other];
    }

    public int practise(int one, int other, int n) {
        if (!now.areTwo(one, other) || !isWithin(n, 1, MOST)) {
            return BAD;
        }
        int have = Math.min(MOST, now.practised[one * PEOPLE + other] + n);
        now.practised[one * PEOPLE + other] = have;
        now.practised[other * PEOPLE + one] = have;
        return have;
    }

    public int may() {
        stage.look(now);
        if (stage.firstBreach() != NONE) {
            return 1;
        }
        if (now.hasBarred()) {
            return 2;
        }
        return now.lacksHours() ? 3 : 0;
    }

    // ---- understudies, shifts

    public int choose(int move) {
        if (!now.hasMove(move)) {
            return BAD;
        }
        if (now.chosenPlace(move) != NONE) {
            return NO;
        }
        if (now.chosenCount >= CHOSEN) {
            return FULL;
        }
        now.chosen[now.chosenCount] = move;
        now.chosenCount++;
        return now.chosenCount;
    }

    public int clear() {
        int were = now.chosenCount;
        now.chosenCount = 0;
        return were;
    }

    public int understudy(int person, int skill, int what) {
        if (!now.hasPerson(person) || !isWithin(skill, 0, SKILLED) || !isWithin(what, 0, 1)) {
            return BAD;
        }
        trial.takeFrom(now);
        trial.people[person].skill = skill;
        stage.look(trial);
        // No blow goes anywhere, so a cut mends none but itself: the fewest cuts are just the blows that don't keep.
        int bits = 0;
        int worth = 0;
        for (int i = 0; i < trial.moveCount; i++) {
            Move one = trial.moves[i];
            if (one.isBlowToDo() && stage.tooNearTo(one) != NONE) {
                int place = trial.chosenPlace(i);
                if (place == NONE) {
                    return NONE;
                }
                bits |= 1 << place;
                worth += WORTH[one.kind];
            }
        }
        return what == 0 ? bits : worth;
    }

    public int shifts(int what) {
        if (!isWithin(what, -1, Math.min(SHIFTED, now.chosenCount) - 1)) {
            return BAD;
        }
        int sum = shifter.seek(now);
        return what == -1 || sum == NONE ? sum : shifter.by[what];
    }

    public int shift() {
        int sum = shifter.seek(now);
        if (sum != NONE) {
            shifter.moveOn(now);
        }
        return sum;
    }

    // ---- weapons, shows

    public int weapon() {
        if (now.weaponCount >= WEAPONS) {
            return FULL;
        }
        now.wear[now.weaponCount] = 0;
        now.holder[now.weaponCount] = NONE;
        now.weaponCount++;
        return now.weaponCount - 1;
    }

    public int out(int weapon, int person) {
        if (!now.hasWeapon(weapon) || !now.hasPerson(person)) {
            return BAD;
        }
        if (now.holder[weapon] != NONE || now.isDull(weapon) || now.weaponOf(person) != NONE) {
            return NO;
        }
        now.holder[weapon] = person;
        return 1;
    }

    public int in(int weapon) {
        if (!now.hasWeapon(weapon)) {
            return BAD;
        }
        int had = now.holder[weapon];
        if (had == NONE) {
            return NO;
        }
        now.holder[weapon] = NONE;
        return had;
    }

    public int wear(int weapon, int what) {
        if (!now.hasWeapon(weapon) || !isWithin(what, 0, 2)) {
            return BAD;
        }
        if (what == 2) {
            return asInt(now.isDull(weapon));
        }
        return what == 0 ? now.wear[weapon] : now.holder[weapon];
    }

    public int seed(int v) {
        int was = now.z;
        now.z = v;
        return was;
    }

    public int show(int n) {
        if (!isWithin(n, 1, ROW_OF_SHOWS)) {
            return BAD;
        }
        if (now.shows + n > SHOWS) {
            return FULL;
        }
        stage.look(now);
        int misses = 0;
        for (int i = 0; i < n; i++) {
            misses += stage.play();
        }
        return misses;
    }

    public int restAll() {
        int tired = 0;
        for (int i = 0; i < now.peopleCount; i++) {
            Person one = now.people[i];
            one.tired = Math.max(0, one.tired - RESTED);
            tired += asInt(one.tired > 0);
        }
        return tired;
    }

    public int log(int i, int what) {
        if (!isWithin(what, 0, 2) || i < 0) {
            return BAD;
        }
        return i < now.log.size ? now.log.cells[3 * i + what] : NONE;
    }

    public int led() {
        return now.log.mostMissed();
    }

    // ---- sheets, slots

    public int sheet(int sheet, int sort, int n) {
        if (!isSheet(sheet) || !isWithin(sort, MISSING, 1)) {
            return BAD;
        }
        if (sort == MISSING) {
            sheets[sheet].become(MISSING, 0);
            return 0;
        }
        if (n > CELLS) {
            return BAD;
        }
        if (n < 0) {
            return SIZE;
        }
        sheets[sheet].become(sort, n);
        return n;
    }

    public int mark(int sheet, int place, int v) {
        if (!isSheet(sheet)) {
            return BAD;
        }
        Sheet row = sheets[sheet];
        if (row.isMissing()) {
            return NOTHING;
        }
        if (!row.hasPlace(place)) {
            return INDEX;
        }
        int was = row.cells[place];
        row.put(place, v);
        return was;
    }

    public int cuts(int sheet) {
        if (!isSheet(sheet)) {
            return BAD;
        }
        Sheet row = sheets[sheet];
        if (row.isMissing()) {
            return NOTHING;
        }
        int changed = 0;
        for (int i = 0; i < row.size && i < now.moveCount; i++) {
            changed += asInt(now.moves[i].becomeCut(row.cells[i] != 0));
        }
        return changed;
    }

    public int copy(int from, int place, int to, int at, int many) {
        if (!isSheet(from) || !isSheet(to)) {
            return BAD;
        }
        Sheet source = sheets[from];
        Sheet target = sheets[to];
        if (source.isMissing() || target.isMissing()) {
            return NOTHING;
        }
        if (source.sort != target.sort) {
            return KIND;
        }
        if (!source.hasPlaces(place, many) || !target.hasPlaces(at, many)) {
            return INDEX;
        }
        System.arraycopy(source.cells, place, target.cells, at, many);
        return many;
    }

    public int lay(int slot, int thing, int k) {
        if (!isSlot(slot) || !isWithin(thing, NO_THING, NUMBER_THING)) {
            return BAD;
        }
        if (thing == MOVE_THING && !now.hasMove(k) || thing == SHEET_THING && !isSheet(k)) {
            return BAD;
        }
        if (thing == SHEET_THING && sheets[k].isMissing()) {
            return NOTHING;
        }
        Slot one = slots[slot];
        int held = one.thing;
        one.thing = thing;
        if (thing == MOVE_THING) {
            one.kind = now.moves[k].kind;
        } else if (thing == SHEET_THING) {
            one.row.takeFrom(sheets[k]);
        } else if (thing == NUMBER_THING) {
            one.number = k;
        }
        return held;
    }

    public int ask(int slot, int kind) {
        if (!isSlot(slot) || !isKind(kind)) {
            return BAD;
        }
        Slot one = slots[slot];
        int finding = one.findingOn(MOVE_THING);
        if (finding != 0) {
            return finding;
        }
        return isOfKind(one.kind, kind) ? WORTH[one.kind] : KIND;
    }

    public int item(int slot, int place) {
        if (!isSlot(slot)) {
            return BAD;
        }
        Slot one = slots[slot];
        int finding = one.findingOn(SHEET_THING);
        if (finding != 0) {
            return finding;
        }
        return one.row.hasPlace(place) ? one.row.cells[place] : INDEX;
    }

    public int rest(int slot, int n) {
        if (!isSlot(slot)) {
            return BAD;
        }
        Slot one = slots[slot];
        int finding = one.findingOn(NUMBER_THING);
        if (finding != 0) {
            return finding;
        }
        return n == 0 ? NO : one.number % n;
    }

    // ---- rows, images

    public int tell(int v) {
        if (waitingCount >= WAITING) {
            return FULL;
        }
        waiting[waitingCount] = v;
        waitingCount++;
        return waitingCount;
    }

    public int check(int n) {
        int told = waitingCount;
        waitingCount = 0;
        if (!isWithin(n, 1, ROW_OF_SHOWS)) {
            return BAD;
        }
        if (!imageKept) {
            return NO;
        }
        trial.takeFrom(image);
        stage.look(trial);
        for (int i = 0; i < n; i++) {
            int misses = stage.play();
            if (2 * i >= told || waiting[2 * i] != misses) {
                return 1 + 2 * i;
            }
            if (2 * i + 1 >= told || waiting[2 * i + 1] != trial.tiredTogether()) {
                return 2 + 2 * i;
            }
        }
        return told > 2 * n ? 1 + 2 * n : 0;
    }

    public int keep() {
        image.takeFrom(now);
        imageKept = true;
        return image.shows;
    }

    public int back() {
        if (!imageKept) {
            return NO;
        }
        now.takeFrom(image);
        return now.shows;
    }

    public int count(int what) {
        switch (what) {
            case 0:
                return now.peopleCount;
            case 1:
                return now.moveCount;
            case 2:
                return now.cutMoves();
            case 3:
                return now.blows();
            case 4:
                return now.signCount;
            case 5:
                return now.textCount;
            case 6:
                return now.chosenCount;
            case 7:
                return now.weaponCount;
            case 8:
                return now.weaponsOut();
            case 9:
                return now.shows;
            case 10:
                return now.log.size;
            case 11:
                return waitingCount;
            case 12:
                return tapeLength;
            case 13:
                return now.z;
            default:
                return BAD;
        }
    }

    // ---- what the calls share

    /** BAD or KIND, if there is no such blow; else 0. */
    private int refusalOfBlow(int move) {
        if (!now.hasMove(move)) {
            return BAD;
        }
        return now.moves[move].isBlow() ? 0 : KIND;
    }

    private void feedOne(int four) {
        for (int shift = 24; shift >= 0; shift -= 8) {
            tape[tapeLength] = (byte) (four >> shift);
            tapeLength++;
        }
    }

    private static boolean isWithin(int v, int least, int most) {
        return v >= least && v <= most;
    }

    private static int held(int v, int least, int most) {
        return Math.max(least, Math.min(most, v));
    }

    private static int asInt(boolean is) {
        return is ? 1 : 0;
    }

    private static boolean isPlace(int place) {
        return place >= 0 && place / 10 <= 11 && place % 10 <= 7;
    }

    private static boolean isTime(int time) {
        return time >= 0 && time / 10 <= LAST_BEAT && isWithin(time % 10, 1, 4);
    }

    private static boolean isKind(int kind) {
        return isWithin(kind, 0, LAST_KIND);
    }

    /** Whether a kind is another one, or under it; the tree of kinds has but three levels. */
    private static boolean isOfKind(int kind, int other) {
        return kind == other || other == MOVE_KIND || ABOVE[kind] == other;
    }

    private static boolean isSheet(int sheet) {
        return isWithin(sheet, 0, SHEETS - 1);
    }

    private static boolean isSlot(int slot) {
        return isWithin(slot, 0, SLOTS - 1);
    }

    private static final class Person {
        int start;
        int skill;
        int tired;

        void takeFrom(Person other) {
            start = other.start;
            skill = other.skill;
            tired = other.tired;
        }
    }

    private static final class Move {
        int person;
        int kind;
        int beat;
        int length;
        int to;
        int aim;
        int span;
        boolean cut;

        void become(int whose, int newKind, int time, int place, int aimed) {
            person = whose;
            kind = newKind;
            beat = time / 10;
            length = time % 10;
            to = place;
            aim = aimed / 10;
            span = aimed % 10;
            cut = false;
        }

        void takeFrom(Move other) {
            person = other.person;
            kind = other.kind;
            beat = other.beat;
            length = other.length;
            to = other.to;
            aim = other.aim;
            span = other.span;
            cut = other.cut;
        }

        int part(int what) {
            switch (what) {
                case 0:
                    return person;
                case 1:
                    return kind;
                case 2:
                    return beat;
                case 3:
                    return length;
                case 4:
                    return to;
                case 5:
                    return aim;
                case 6:
                    return span;
                default:
                    return asInt(cut);
            }
        }

        boolean isBlow() {
            return isOfKind(kind, BLOW_KIND);
        }

        boolean isBlowToDo() {
            return !cut && isBlow();
        }

        boolean goesOn() {
            return !cut && GOES[kind] == 1;
        }

        boolean becomeCut(boolean is) {
            boolean isNew = cut != is;
            cut = is;
            return isNew;
        }

        boolean sharesBeat(Move other) {
            return person == other.person && beat < other.beat + other.length && other.beat < beat + length;
        }

        /** The gap that this blow must keep to a person. */
        int spanTo(int other) {
            return other == aim ? span / 2 : span;
        }
    }

    /** A law text, as steps that are worked out on a stack. */
    private static final class Text {
        final int key;
        final int leaves;
        private final int[] code;
        private final int[] stack;

        Text(int key, int leaves, int[] code) {
            this.key = key;
            this.leaves = leaves;
            this.code = code;
            stack = new int[Math.max(1, leaves)];
        }

        /** What it gives, with the values of its key's names in their order. */
        int value(int a, int b, int c, int d) {
            int top = -1;
            for (int i = 0; i < code.length; i++) {
                int step = code[i];
                if (step < JOINED) {
                    top = Math.min(top + 1, stack.length - 1);
                    stack[top] = step < NAMED ? step : named(step - NAMED, a, b, c, d);
                } else if (step == JOINED + '!') {
                    top = Math.max(top, 0);
                    stack[top] = asInt(stack[top] == 0);
                } else if (top > 0) {
                    top--;
                    stack[top] = joined(step - JOINED, stack[top], stack[top + 1]);
                }
            }
            return stack[0];
        }

        private static int named(int place, int a, int b, int c, int d) {
            if (place == 0) {
                return a;
            }
            if (place == 1) {
                return b;
            }
            return place == 2 ? c : d;
        }

        private static int joined(int sign, int left, int right) {
            switch (sign) {
                case '|':
                    return asInt(left != 0 || right != 0);
                case '&':
                    return asInt(left != 0 && right != 0);
                case '<':
                    return asInt(left < right);
                case '=':
                    return asInt(left == right);
                case '>':
                    return asInt(left > right);
                case '+':
                    return left + right;
                case '-':
                    return left - right;
                case '*':
                    return left * right;
                default:
                    return right == 0 ? 0 : left / right;
            }
        }
    }

    /** Reads the tape as a text, a word or sign ahead; where it stops is the fault. */
    private static final class Reader {
        private static final int END = 0;
        private static final int LETTERS = 1;
        private static final int DIGITS = 2;
        private static final int SIGN = 3;
        // A word that needs a blank ahead of it and has none: nothing goes on with it.
        private static final int GLUED = 4;

        // The tiers of an expression, the loosest first.
        private static final int OR = 0;
        private static final int AND = 1;
        private static final int TEST = 2;
        private static final int SUM = 3;
        private static final int PIECE = 5;

        private final byte[] tape;
        private final int[] code = new int[TAPE];
        private int length;
        private int end;
        private int found;
        private int key;
        private int steps;
        private int leaves;
        /** Where the word or sign that is looked at begins. */
        int at;

        Reader(byte[] tape) {
            this.tape = tape;
        }

        /** The text; null, if there is a fault. */
        Text read(int bytes) {
            length = Math.min(bytes, tape.length);
            end = 0;
            found = END;
            steps = 0;
            leaves = 0;
            goOn();
            key = keyHere();
            if (key < 0) {
                return null;
            }
            goOn();
            if (!tier(OR, 0, 0) || found != END) {
                return null;
            }
            return new Text(key, leaves, Arrays.copyOf(code, steps));
        }

        private void goOn() {
            boolean wordBefore = found == LETTERS || found == DIGITS;
            int before = end;
            at = end;
            while (at < length && tape[at] == ' ') {
                at++;
            }
            end = at;
            found = foundAt(at);
            if (found == SIGN) {
                end++;
            } else if (found != END) {
                while (end < length && foundAt(end) == found) {
                    end++;
                }
                if (wordBefore && at == before) {
                    found = GLUED;
                }
            }
        }

        private int foundAt(int place) {
            if (place >= length) {
                return END;
            }
            int one = tape[place];
            if (one >= 'a' && one <= 'z') {
                return LETTERS;
            }
            return one >= '0' && one <= '9' ? DIGITS : SIGN;
        }

        private int keyHere() {
            if (found != LETTERS) {
                return -1;
            }
            if (isHere("late")) {
                return LATE_KEY;
            }
            if (isHere("bar")) {
                return BAR_KEY;
            }
            return isHere("hours") ? HOURS_KEY : -1;
        }

        private boolean isHere(String word) {
            if (end - at != word.length()) {
                return false;
            }
            for (int i = 0; i < word.length(); i++) {
                if (tape[at + i] != word.charAt(i)) {
                    return false;
                }
            }
            return true;
        }

        /** What stands on a tier is read, with so many ( and ! open around it: whether it goes on so. */
        private boolean tier(int tier, int open, int nots) {
            if (tier >= PIECE) {
                return piece(open, nots);
            }
            if (!tier(tier + 1, open, nots)) {
                return false;
            }
            int most = tier == TEST ? 1 : TAPE;
            for (int i = 0; i < most && isJoinOf(tier); i++) {
                int sign = tape[at];
                goOn();
                if (!tier(tier + 1, open, nots)) {
                    return false;
                }
                note(JOINED + sign);
            }
            return true;
        }

        private boolean isJoinOf(int tier) {
            if (found != SIGN) {
                return false;
            }
            int sign = tape[at];
            switch (tier) {
                case OR:
                    return sign == '|';
                case AND:
                    return sign == '&';
                case TEST:
                    return sign == '<' || sign == '=' || sign == '>';
                case SUM:
                    return sign == '+' || sign == '-';
                default:
                    return sign == '*' || sign == '/';
            }
        }

        private boolean piece(int open, int nots) {
            if (found == DIGITS || found == LETTERS) {
                int step = found == DIGITS ? numberHere() : nameHere();
                if (step < 0) {
                    return false;
                }
                leaves++;
                note(step);
                goOn();
                return true;
            }
            if (isSign('!') && nots < DEEPEST) {
                goOn();
                if (!piece(open, nots + 1)) {
                    return false;
                }
                note(JOINED + '!');
                return true;
            }
            if (isSign('(') && open < DEEPEST) {
                goOn();
                if (!tier(OR, open + 1, nots) || !isSign(')')) {
                    return false;
                }
                goOn();
                return true;
            }
            return false;
        }

        private boolean isSign(char sign) {
            return found == SIGN && tape[at] == sign;
        }

        /** The step for the number here, or -1. */
        private int numberHere() {
            if (end - at > 4) {
                return -1;
            }
            int value = 0;
            for (int i = at; i < end; i++) {
                value = 10 * value + (tape[i] - '0');
            }
            return value;
        }

        /** The step for the name here, or -1. */
        private int nameHere() {
            String names = key == LATE_KEY ? "stw" : key == BAR_KEY ? "ksba" : "ns";
            int place = end - at == 1 ? names.indexOf((char) tape[at]) : -1;
            return place < 0 ? -1 : NAMED + place;
        }

        private void note(int step) {
            if (steps < code.length) {
                code[steps] = step;
                steps++;
            }
        }
    }

    /** The near misses that are kept: show, move and person of each. */
    private static final class Log {
        final int[] cells = new int[3 * LOGGED];
        private final int[] misses = new int[MOVES];
        int size = 0;

        void add(int show, int move, int person) {
            if (size < LOGGED) {
                cells[3 * size] = show;
                cells[3 * size + 1] = move;
                cells[3 * size + 2] = person;
                size++;
            }
        }

        void takeFrom(Log other) {
            size = other.size;
            System.arraycopy(other.cells, 0, cells, 0, cells.length);
        }

        int mostMissed() {
            for (int i = 0; i < MOVES; i++) {
                misses[i] = 0;
            }
            for (int i = 0; i < size; i++) {
                misses[cells[3 * i + 1]]++;
            }
            int most = NONE;
            for (int i = 0; i < MOVES; i++) {
                if (misses[i] > (most == NONE ? 0 : misses[most])) {
                    most = i;
                }
            }
            return most;
        }
    }

    /** All that an image keeps. */
    private static final class Scene {
        final Person[] people = new Person[PEOPLE];
        final Move[] moves = new Move[MOVES];
        final int[] signPerson = new int[SIGNS];
        final int[] signBeat = new int[SIGNS];
        final Text[] texts = new Text[TEXTS];
        final int[] practised = new int[PEOPLE * PEOPLE];
        final int[] chosen = new int[CHOSEN];
        final int[] wear = new int[WEAPONS];
        final int[] holder = new int[WEAPONS];
        final Log log = new Log();
        int peopleCount = 0;
        int moveCount = 0;
        int signCount = 0;
        int textCount = 0;
        int chosenCount = 0;
        int weaponCount = 0;
        int wet = 0;
        int shows = 0;
        int z = 1;

        Scene() {
            for (int i = 0; i < PEOPLE; i++) {
                people[i] = new Person();
            }
            for (int i = 0; i < MOVES; i++) {
                moves[i] = new Move();
            }
        }

        void takeFrom(Scene other) {
            for (int i = 0; i < other.peopleCount; i++) {
                people[i].takeFrom(other.people[i]);
            }
            for (int i = 0; i < other.moveCount; i++) {
                moves[i].takeFrom(other.moves[i]);
            }
            for (int i = 0; i < TEXTS; i++) {
                texts[i] = other.texts[i];
            }
            System.arraycopy(other.signPerson, 0, signPerson, 0, SIGNS);
            System.arraycopy(other.signBeat, 0, signBeat, 0, SIGNS);
            System.arraycopy(other.practised, 0, practised, 0, PEOPLE * PEOPLE);
            System.arraycopy(other.chosen, 0, chosen, 0, CHOSEN);
            System.arraycopy(other.wear, 0, wear, 0, WEAPONS);
            System.arraycopy(other.holder, 0, holder, 0, WEAPONS);
            log.takeFrom(other.log);
            peopleCount = other.peopleCount;
            moveCount = other.moveCount;
            signCount = other.signCount;
            textCount = other.textCount;
            chosenCount = other.chosenCount;
            weaponCount = other.weaponCount;
            wet = other.wet;
            shows = other.shows;
            z = other.z;
        }

        boolean hasPerson(int person) {
            return isWithin(person, 0, peopleCount - 1);
        }

        boolean hasMove(int move) {
            return isWithin(move, 0, moveCount - 1);
        }

        boolean hasWeapon(int weapon) {
            return isWithin(weapon, 0, weaponCount - 1);
        }

        boolean areTwo(int one, int other) {
            return hasPerson(one) && hasPerson(other) && one != other;
        }

        int addPerson(int place, int skill) {
            Person one = people[peopleCount];
            one.start = place;
            one.skill = skill;
            one.tired = 0;
            peopleCount++;
            return peopleCount - 1;
        }

        int tiredTogether() {
            int sum = 0;
            for (int i = 0; i < peopleCount; i++) {
                sum += people[i].tired;
            }
            return sum;
        }

        int cutMoves() {
            int many = 0;
            for (int i = 0; i < moveCount; i++) {
                many += asInt(moves[i].cut);
            }
            return many;
        }

        int blows() {
            int many = 0;
            for (int i = 0; i < moveCount; i++) {
                many += asInt(moves[i].isBlow());
            }
            return many;
        }

        /** Whether a move has a beat in common with another one of the same person. */
        boolean meetsAnother(int move) {
            for (int i = 0; i < moveCount; i++) {
                if (i != move && moves[i].sharesBeat(moves[move])) {
                    return true;
                }
            }
            return false;
        }

        /** The first move by which a person goes, from a beat on; null, if there is none. */
        Move nextGoing(int person, int beat) {
            Move next = null;
            for (int i = 0; i < moveCount; i++) {
                Move one = moves[i];
                if (one.person == person && one.goesOn() && one.beat >= beat && (next == null || one.beat < next.beat)) {
                    next = one;
                }
            }
            return next;
        }

        int unreadyBlows() {
            int many = 0;
            for (int i = 0; i < moveCount; i++) {
                Move one = moves[i];
                many += asInt(one.isBlowToDo() && isUnready(one));
            }
            return many;
        }

        boolean isUnready(Move blow) {
            for (int i = 0; i < signCount; i++) {
                if (signPerson[i] == blow.aim && isWithin(blow.beat - signBeat[i], 1, 3)) {
                    return false;
                }
            }
            return true;
        }

        /** The text that counts of a key; null, if there is none. */
        Text lawOf(int key) {
            for (int i = textCount - 1; i >= 0; i--) {
                Text one = texts[i];
                if (one != null && one.key == key) {
                    return one;
                }
            }
            return null;
        }

        int lateOf(int person) {
            Person one = people[person];
            Text law = lawOf(LATE_KEY);
            int late = law == null
                    ? (SKILLED - one.skill) / 3 + one.tired / 25 + wet
                    : law.value(one.skill, one.tired, wet, 0);
            return held(late, 0, LATEST);
        }

        boolean isBarred(Move one) {
            Text law = lawOf(BAR_KEY);
            return law != null && law.value(one.kind, people[one.person].skill, one.beat, people[one.aim].skill) != 0;
        }

        boolean hasBarred() {
            for (int i = 0; i < moveCount; i++) {
                if (!moves[i].cut && isBarred(moves[i])) {
                    return true;
                }
            }
            return false;
        }

        int hoursNeeded(int one, int other) {
            int blows = 0;
            for (int i = 0; i < moveCount; i++) {
                Move each = moves[i];
                boolean between = each.person == one && each.aim == other || each.person == other && each.aim == one;
                blows += asInt(between && each.isBlowToDo());
            }
            int skill = Math.min(people[one].skill, people[other].skill);
            Text law = lawOf(HOURS_KEY);
            return law == null ? blows * (10 - skill) : held(law.value(blows, skill, 0, 0), 0, MOST);
        }

        boolean lacksHours() {
            for (int one = 0; one < peopleCount; one++) {
                for (int other = one + 1; other < peopleCount; other++) {
                    if (practised[one * PEOPLE + other] < hoursNeeded(one, other)) {
                        return true;
                    }
                }
            }
            return false;
        }

        /** Which of the told moves this one is; NONE, if it is not told. */
        int chosenPlace(int move) {
            for (int i = 0; i < chosenCount; i++) {
                if (chosen[i] == move) {
                    return i;
                }
            }
            return NONE;
        }

        boolean isDull(int weapon) {
            return wear[weapon] > DULL_ABOVE;
        }

        int weaponOf(int person) {
            for (int i = 0; i < weaponCount; i++) {
                if (holder[i] == person) {
                    return i;
                }
            }
            return NONE;
        }

        int weaponsOut() {
            int many = 0;
            for (int i = 0; i < weaponCount; i++) {
                many += asInt(holder[i] != NONE);
            }
            return many;
        }

        /** What a show leaves behind it. */
        void endShow() {
            for (int i = 0; i < peopleCount; i++) {
                tireAndWear(i);
            }
            shows++;
        }

        private void tireAndWear(int person) {
            int tires = 0;
            int wears = 0;
            for (int i = 0; i < moveCount; i++) {
                Move one = moves[i];
                if (one.person == person && !one.cut) {
                    tires += TIRES[one.kind];
                    wears += WEARS[one.kind];
                }
            }
            people[person].tired = Math.min(MOST, people[person].tired + tires);
            int weapon = weaponOf(person);
            if (weapon != NONE) {
                wear[weapon] = Math.min(MOST, wear[weapon] + wears);
            }
        }
    }

    /** Where all are at each beat of a scene, and what comes of it. */
    private static final class Stage {
        private final int[] xs = new int[PEOPLE * SPOTS];
        private final int[] ys = new int[PEOPLE * SPOTS];
        private final int[] lates = new int[PEOPLE];
        private final int[] drawn = new int[PEOPLE];
        private Scene scene;

        Stage(Scene scene) {
            this.scene = scene;
        }

        /** From now on this scene is looked at, as it is now. */
        void look(Scene other) {
            scene = other;
            for (int i = 0; i < scene.peopleCount; i++) {
                lates[i] = scene.lateOf(i);
                trace(i);
            }
        }

        /** A person's way is laid down anew. */
        void trace(int person) {
            int place = scene.people[person].start;
            int beat = -1;
            for (int i = 0; i <= MOVES; i++) {
                Move next = scene.nextGoing(person, beat);
                if (next == null) {
                    stay(person, beat, SPOTS - 1, place);
                    return;
                }
                stay(person, beat, next.beat, place);
                go(next, place);
                place = next.to;
                beat = next.beat + next.length;
            }
        }

        private void stay(int person, int from, int until, int place) {
            int x = place / 10;
            int y = place % 10;
            int last = Math.min(spotAt(person, until), spotAt(person, SPOTS - 1));
            for (int spot = spotAt(person, from); spot < last; spot++) {
                xs[spot] = x;
                ys[spot] = y;
            }
        }

        private void go(Move one, int place) {
            int x = place / 10;
            int y = place % 10;
            int length = Math.max(1, one.length);
            for (int i = 1; i <= length; i++) {
                int spot = spotAt(one.person, one.beat + i - 1);
                xs[spot] = x + (one.to / 10 - x) * i / length;
                ys[spot] = y + (one.to % 10 - y) * i / length;
            }
        }

        private static int spotAt(int person, int beat) {
            return person * SPOTS + 1 + Math.max(-1, beat);
        }

        int placeAt(int person, int beat) {
            int spot = spotAt(person, beat);
            return 10 * xs[spot] + ys[spot];
        }

        /**
         * The least gap of a blow to a person within the beats of that person's own way.
         * Whose blow it is stands still all through it: no two moves of one have a beat in common.
         */
        private int leastGap(Move blow, int other, int first, int last) {
            int here = blow.person * SPOTS + 1 + blow.beat;
            int row = other * SPOTS + 1;
            int end = row + Math.max(-1, last);
            int least = FARTHER;
            for (int spot = row + Math.max(-1, first); spot <= end; spot++) {
                int far = Math.max(Math.abs(xs[spot] - xs[here]), Math.abs(ys[spot] - ys[here]));
                least = Math.min(least, far);
            }
            return least - REACH[blow.kind];
        }

        int gapTo(Move blow, int other) {
            // Each may be late by 0 up to so much: of the other's way that makes one row of beats.
            return leastGap(blow, other, blow.beat - lates[other], blow.beat + blow.length - 1 + lates[blow.person]);
        }

        /** The least person to whom a blow's gap is too little, or NONE. */
        int tooNearTo(Move blow) {
            for (int other = 0; other < scene.peopleCount; other++) {
                if (other != blow.person && gapTo(blow, other) < blow.spanTo(other)) {
                    return other;
                }
            }
            return NONE;
        }

        int firstBreach() {
            for (int i = 0; i < scene.moveCount; i++) {
                Move one = scene.moves[i];
                if (one.isBlowToDo() && tooNearTo(one) != NONE) {
                    return i;
                }
            }
            return NONE;
        }

        boolean isSeen(Move blow) {
            int here = spotAt(blow.person, blow.beat);
            for (int other = 0; other < scene.peopleCount; other++) {
                int there = spotAt(other, blow.beat);
                if (other != blow.aim && xs[there] == xs[here] && ys[there] > ys[here]) {
                    return false;
                }
            }
            return true;
        }

        /** A show is drawn and done in the scene: its near misses. */
        int play() {
            for (int i = 0; i < scene.peopleCount; i++) {
                scene.z = scene.z * 1103515245 + 12345;
                drawn[i] = (scene.z >>> 8) % (scene.lateOf(i) + 1);
            }
            int misses = 0;
            for (int i = 0; i < scene.moveCount; i++) {
                if (scene.moves[i].isBlowToDo()) {
                    misses += missesOf(i);
                }
            }
            scene.endShow();
            return misses;
        }

        private int missesOf(int move) {
            Move blow = scene.moves[move];
            int misses = 0;
            for (int other = 0; other < scene.peopleCount; other++) {
                int first = blow.beat + drawn[blow.person] - drawn[other];
                if (other != blow.person && leastGap(blow, other, first, first + blow.length - 1) < blow.spanTo(other)) {
                    scene.log.add(scene.shows, move, other);
                    misses++;
                }
            }
            return misses;
        }
    }

    /** Seeks the shifts, on a scene that nothing else needs meanwhile. */
    private static final class Shifter {
        private final Scene trial;
        private final Stage stage;
        private final int[] beats = new int[SHIFTED];
        private int many;
        private int broken;
        /** By how much each of the first told ones goes. */
        final int[] by = new int[SHIFTED];

        Shifter(Scene trial, Stage stage) {
            this.trial = trial;
            this.stage = stage;
        }

        /** The least sum, or NONE. */
        int seek(Scene scene) {
            trial.takeFrom(scene);
            stage.look(trial);
            many = Math.min(SHIFTED, trial.chosenCount);
            broken = NONE;
            for (int i = 0; i < many; i++) {
                beats[i] = trial.moves[trial.chosen[i]].beat;
            }
            for (int sum = 0; sum <= many * FARTHEST; sum++) {
                for (int first = 0; first <= Math.min(FARTHEST, sum); first++) {
                    for (int second = 0; second <= Math.min(FARTHEST, sum - first); second++) {
                        if (isToTry(first, second, sum - first - second) && stands()) {
                            return sum;
                        }
                    }
                }
            }
            return NONE;
        }

        void moveOn(Scene scene) {
            for (int i = 0; i < many; i++) {
                scene.moves[scene.chosen[i]].beat += by[i];
            }
        }

        private boolean isToTry(int first, int second, int third) {
            by[0] = first;
            by[1] = second;
            by[2] = third;
            for (int i = many; i < SHIFTED; i++) {
                if (by[i] > 0) {
                    return false;
                }
            }
            return third <= FARTHEST;
        }

        /** Whether all is well with these shifts. */
        private boolean stands() {
            for (int i = 0; i < many; i++) {
                Move one = trial.moves[trial.chosen[i]];
                one.beat = beats[i] + by[i];
                if (one.beat > LAST_BEAT) {
                    return false;
                }
            }
            for (int i = 0; i < many; i++) {
                if (trial.meetsAnother(trial.chosen[i])) {
                    return false;
                }
            }
            for (int i = 0; i < many; i++) {
                Move one = trial.moves[trial.chosen[i]];
                if (one.goesOn()) {
                    stage.trace(one.person);
                }
            }
            // What broke the last try mostly breaks this one, too; so it is looked at first.
            if (broken != NONE && stage.tooNearTo(trial.moves[broken]) != NONE) {
                return false;
            }
            broken = stage.firstBreach();
            return broken == NONE;
        }
    }

    /** A row of bytes (sort 0) or booleans (1), or missing. */
    private static final class Sheet {
        final byte[] cells = new byte[CELLS];
        int sort = MISSING;
        int size = 0;

        boolean isMissing() {
            return sort == MISSING;
        }

        void become(int newSort, int places) {
            sort = newSort;
            size = places;
            for (int i = 0; i < CELLS; i++) {
                cells[i] = 0;
            }
        }

        void takeFrom(Sheet other) {
            sort = other.sort;
            size = other.size;
            System.arraycopy(other.cells, 0, cells, 0, CELLS);
        }

        boolean hasPlace(int place) {
            return isWithin(place, 0, size - 1);
        }

        boolean hasPlaces(int place, int many) {
            return isWithin(place, 0, size) && isWithin(many, 0, size - place);
        }

        void put(int place, int v) {
            cells[place] = sort == 0 ? (byte) v : (byte) asInt(v != 0);
        }
    }

    private static final class Slot {
        final Sheet row = new Sheet();
        int thing = NO_THING;
        int kind = 0;
        int number = 0;

        /** NOTHING or KIND, if it does not hold such a thing; else 0. */
        int findingOn(int wanted) {
            if (thing == NO_THING) {
                return NOTHING;
            }
            return thing == wanted ? 0 : KIND;
        }
    }
}
