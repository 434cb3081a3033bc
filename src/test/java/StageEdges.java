/** Edges of the stage: 'Terms' 0 and 1, and the promises 1 to 10. */
final class StageEdges {
    private StageEdges() {
    }

    static void all() {
        numbers();
        places();
        people();
        distances();
        moves();
        times();
        aims();
        beatsInCommon();
        kinds();
        where();
        newObject();
        personCall();
        toldCall();
        setCall();
        moveCall();
        ofCall();
        asCall();
        cutCall();
        wetCall();
        whereCall();
    }

    private static void numbers() {
        Sentences.terms(0, "All numbers are whole; / cuts towards 0.");
        Script.rows("""
            person(117, 9) 0
            person(0, 5) 1
            move(0, 1, 104, 0, 10) 0
            where(0, 10) 96                 # 11 - 11 / 4 and 7 - 7 / 4
            where(0, 11) 64
            where(0, 12) 32
            where(0, 13) 0
            'hours 50+(0-7)/2' 0
            hours(0, 1, 0) 47
            'hours 50+7/(0-2)' 1
            hours(0, 1, 0) 47
            'hours 50+(0-7)/(0-2)' 2
            hours(0, 1, 0) 53
            """);
        Sentences.terms(0, "NONE: there is none.");
        Script.rows("""
            person(33, 9) 0
            weapon() 0
            told(0, 3) NONE
            wear(0, 1) NONE
            breach(0) NONE
            breach(1) NONE
            log(0, 0) NONE
            led() NONE
            """);
    }

    private static boolean isPlace(int place) {
        return place >= 0 && place <= 117 && place % 10 <= 7;
    }

    private static void places() {
        Sentences.terms(1, "THE STAGE has PLACES by x 0 .. 11 and y 0 .. 7, told as 10 * x + y.");
        for (int place = -25; place <= 145; place++) {
            Script.rows("person(" + place + ", 0) " + (isPlace(place) ? "0" : "BAD"),
                "told(0, 0) " + (isPlace(place) ? place : "BAD"));
            Script.rows("person(0, 0) 0", "person(10, 0) 1",
                "move(0, 1, 1, " + place + ", 10) " + (isPlace(place) ? "0" : "BAD"),
                "where(0, 0) " + (isPlace(place) ? place : 0));
        }
        for (String far : new String[] {"MIN", "MAX", "-2147483640", "2147483640", "1000", "-1000"}) {
            Script.rows("person(" + far + ", 0) BAD", "person(0, 0) 0", "person(0, 0) 1", "move(0, 1, 1, " + far + ", 10) BAD");
        }
    }

    private static void people() {
        Sentences.terms(1, """
            PEOPLE, 8 at most, numbered from 0: a PLACE at which one begins, a SKILL 0 .. 9, TIRED 0 .. 99 (0 at first), a
            WEAPON or none (none at first).""");
        StringBuilder rows = new StringBuilder();
        for (int i = 0; i < 8; i++) {
            rows.append("person(").append(10 * i + i).append(", ").append(i + 2 > 9 ? 0 : i + 2).append(") ").append(i).append('\n');
        }
        for (int i = 0; i < 8; i++) {
            rows.append("told(").append(i).append(", 0) ").append(10 * i + i).append('\n');
            rows.append("told(").append(i).append(", 1) ").append(i + 2 > 9 ? 0 : i + 2).append('\n');
            rows.append("told(").append(i).append(", 2) 0\n");
            rows.append("told(").append(i).append(", 3) NONE\n");
        }
        Script.rows(rows.toString(), """
            person(0, 0) FULL
            person(117, 9) FULL
            count(0) 8
            set(7, 2, 99) 0
            set(7, 2, 100) BAD
            set(7, 2, -1) BAD
            set(7, 2, 0) 99
            told(8, 0) BAD
            """);
    }

    private static void distances() {
        Sentences.terms(1, "DISTANCE of two PLACES: the greater of both differences (of x, of y).");
        for (int x = 0; x <= 11; x++) {
            for (int y = 0; y <= 7; y++) {
                int far = Math.max(Math.abs(x - 5), Math.abs(y - 3));
                Script.rows("person(53, 9) 0", "person(" + (10 * x + y) + ", 9) 1", "move(0, 2, 101, 0, 10) 0",
                    "move(1, 3, 101, 0, 0) 1", "gap(0, 1) " + (far - 2), "gap(1, 0) " + (far - 3));
            }
        }
    }

    private static final String THREE = """
        person(0, 9) 0
        person(117, 9) 1
        person(55, 9) 2
        """;

    private static void moves() {
        Sentences.terms(1, """
            MOVES, 20 at most, numbered from 0: of a PERSON, from a BEAT (0 .. 90) on, for LONG beats (1 .. 4), with a PLACE TO,
            an AIM (another PERSON), a SPAN 0 .. 9, CUT or not (not, at first), and a KIND: 0 MOVE; 1 STEP, 2 BLOW, 5 FALL,
            under MOVE; 3 THRUST, 4 FEINT, under BLOW (all are MOVES).""");
        StringBuilder rows = new StringBuilder(THREE);
        for (int i = 0; i < 20; i++) {
            rows.append("move(").append(i % 2).append(", ").append(i % 6).append(", ").append(10 * i + 1).append(", 3, 2")
                .append(i % 10).append(") ").append(i).append('\n');
        }
        for (int i = 0; i < 20; i++) {
            rows.append("of(").append(i).append(", 0) ").append(i % 2).append('\n');
            rows.append("of(").append(i).append(", 1) ").append(i % 6).append('\n');
            rows.append("of(").append(i).append(", 2) ").append(i).append('\n');
            rows.append("of(").append(i).append(", 5) 2\n");
            rows.append("of(").append(i).append(", 6) ").append(i % 10).append('\n');
            rows.append("of(").append(i).append(", 7) 0\n");
        }
        Script.rows(rows.toString(), """
            move(0, 0, 904, 0, 20) FULL
            move(2, 5, 1, 0, 10) FULL
            count(1) 20
            of(20, 0) BAD
            """);
        Script.rows(THREE, """
            move(0, -1, 1, 0, 10) BAD
            move(0, 6, 1, 0, 10) BAD
            move(0, 0, 1, 0, 10) 0
            move(0, 5, 11, 0, 10) 1
            """);
    }

    private static void times() {
        Sentences.terms(1, "from a BEAT (0 .. 90) on, for LONG beats (1 .. 4)");
        int[] from = {-15, 440, 885};
        int[] until = {45, 460, 945};
        for (int part = 0; part < from.length; part++) {
            for (int time = from[part]; time <= until[part]; time++) {
                boolean is = time >= 0 && time / 10 <= 90 && time % 10 >= 1 && time % 10 <= 4;
                Script.rows(THREE, "move(0, 0, " + time + ", 0, 10) " + (is ? "0" : "BAD"),
                    "of(0, 2) " + (is ? time / 10 : "BAD"), "of(0, 3) " + (is ? time % 10 : "BAD"));
            }
        }
        Script.rows(THREE, "move(0, 0, MIN, 0, 10) BAD", "move(0, 0, MAX, 0, 10) BAD", "move(0, 0, -901, 0, 10) BAD");
    }

    private static void aims() {
        Sentences.terms(1, "an AIM (another PERSON), a SPAN 0 .. 9");
        for (int aim = -12; aim <= 45; aim++) {
            boolean is = aim >= 0 && aim < 30 && aim / 10 != 1;
            Script.rows(THREE, "move(1, 2, 11, 0, " + aim + ") " + (is ? "0" : "BAD"),
                "of(0, 5) " + (is ? aim / 10 : "BAD"), "of(0, 6) " + (is ? aim % 10 : "BAD"));
        }
        Script.rows(THREE, "move(1, 2, 11, 0, MIN) BAD", "move(1, 2, 11, 0, MAX) BAD", "move(1, 2, 11, 0, -20) BAD");
        Script.rows("person(0, 9) 0", "move(0, 2, 11, 0, 0) BAD", "move(0, 2, 11, 0, 10) BAD");
    }

    private static void beatsInCommon() {
        Sentences.terms(1, "No two MOVES of one PERSON have a beat in common (CUT ones, too).");
        for (int one = 1; one <= 4; one++) {
            for (int other = 1; other <= 4; other++) {
                for (int beat = 45; beat <= 55; beat++) {
                    boolean common = beat < 50 + one && 50 < beat + other;
                    String move = "move(0, 0, " + (10 * beat + other) + ", 0, 10) ";
                    Script.rows(THREE, "move(0, 2, " + (500 + one) + ", 0, 10) 0", move + (common ? "NO" : "1"));
                }
            }
        }
        Script.rows(THREE, """
            move(0, 2, 502, 0, 10) 0
            cut(0, true) 1
            move(0, 0, 511, 0, 10) NO
            move(0, 1, 494, 0, 10) NO
            move(1, 0, 511, 0, 0) 1        # of another one
            move(2, 0, 502, 0, 0) 2
            move(0, 0, 521, 0, 10) 3
            cut(3, true) 1
            move(0, 5, 521, 0, 10) NO
            """);
    }

    private static void kinds() {
        Sentences.terms(1, "REACH: MOVE: 0. BLOW: 2. THRUST: as BLOW, and 1. FEINT: as BLOW, less 1.");
        table(8, 0, 0, 2, 3, 1, 0);
        Sentences.terms(1, """
            WORTH (to be seen): MOVE: 0. STEP: 1. BLOW: 5. THRUST: as BLOW, and 2. FEINT: half (cut) of as BLOW. FALL: 4.""");
        table(9, 0, 1, 5, 7, 2, 4);
        Sentences.terms(1, "TIRES: MOVE: 1. BLOW: as MOVE, and 1. THRUST: as BLOW, and 1. FALL: 3.");
        table(10, 1, 1, 2, 3, 2, 3);
        Sentences.terms(1, "WEARS (a weapon in a show): MOVE: 0. BLOW: 1. THRUST: twice as BLOW. FEINT: 0.");
        table(11, 0, 0, 1, 2, 0, 0);
        Sentences.terms(1, "(A KIND that is not named does as the one above it.)");
        Script.rows(THREE, """
            move(0, 1, 11, 0, 10) 0
            move(0, 5, 21, 0, 10) 1
            move(0, 4, 31, 0, 10) 2
            of(0, 8) 0                     # a STEP reaches as a MOVE
            of(1, 8) 0                     # so does a FALL
            of(0, 10) 1                    # a STEP tires as a MOVE
            of(2, 10) 2                    # a FEINT tires as a BLOW
            of(0, 11) 0
            of(1, 11) 0
            """);
        Sentences.terms(1, "GOES: whether one goes TO: STEPS and FALLS do, others don't.");
        int[] at = {0, 77, 0, 0, 0, 77};
        for (int kind = 0; kind < 6; kind++) {
            Script.rows(THREE, "move(0, " + kind + ", 102, 77, 10) 0", "where(0, 9) 0", "where(0, 11) " + at[kind],
                "where(0, 99) " + at[kind]);
        }
    }

    /** What a MOVE of each KIND has, 0 .. 5. */
    private static void table(int what, int... due) {
        for (int kind = 0; kind < 6; kind++) {
            Script.rows(THREE, "move(0, " + kind + ", 901, 0, 10) 0", "of(0, " + what + ") " + due[kind]);
        }
    }

    private static void where() {
        Sentences.terms(1, """
            WHERE a PERSON is at a beat t: of MOVES of theirs that GO (not CUT), in order of beats: from where they were ahead
            of it, in beat BEAT + i (i 0 .. LONG - 1) they are as far as (i + 1) by LONG of the way, in x and in y by itself
            (the way times that, cut); behind its last beat TO.""");
        int[][] ways = {{110}, {54, 110}, {35, 73, 110}, {26, 54, 82, 110}};
        int[][] back = {{7}, {63, 7}, {82, 44, 7}, {91, 63, 35, 7}};
        for (int length = 1; length <= 4; length++) {
            StringBuilder rows = new StringBuilder("person(7, 9) 0\nperson(33, 9) 1\n");
            rows.append("move(0, 1, ").append(100 + length).append(", 110, 10) 0\n");
            rows.append("move(0, 5, ").append(100 + 10 * length + length).append(", 7, 10) 1\n");
            rows.append("where(0, 9) 7\n");
            for (int i = 0; i < length; i++) {
                rows.append("where(0, ").append(10 + i).append(") ").append(ways[length - 1][i]).append('\n');
                rows.append("where(0, ").append(10 + length + i).append(") ").append(back[length - 1][i]).append('\n');
            }
            rows.append("where(0, ").append(10 + 2 * length).append(") 7\nwhere(0, 99) 7\nwhere(1, 11) 33\n");
            Script.rows(rows.toString());
        }
        Script.rows("""
            person(0, 9) 0
            person(33, 9) 1
            move(0, 1, 501, 40, 10) 0      # by numbers the first, by beats the last
            move(0, 1, 101, 10, 10) 1
            move(0, 1, 302, 30, 10) 2
            where(0, 10) 10
            where(0, 29) 10
            where(0, 30) 20
            where(0, 31) 30
            where(0, 49) 30
            where(0, 50) 40
            cut(2, true) 1
            where(0, 31) 10
            where(0, 50) 40
            cut(1, true) 1
            where(0, 31) 0
            cut(0, true) 1
            where(0, 99) 0
            cut(2, false) 1
            where(0, 30) 10                # x 3 / 2, from where they begin
            """);
        Sentences.terms(1, "Ahead of the first where they begin (also for beats below 0).");
        Script.rows("""
            person(117, 9) 0
            person(33, 9) 1
            move(0, 1, 2, 97, 10) 0
            where(0, -9) 117
            where(0, -1) 117
            where(0, 0) 107
            where(0, 1) 97
            move(1, 5, 904, 73, 0) 1
            where(1, -9) 33
            where(1, 89) 33
            where(1, 90) 43
            where(1, 93) 73
            where(1, 94) 73
            where(1, 99) 73
            """);
    }

    private static void newObject() {
        Sentences.promise(1, "As told; no PEOPLE.");
        StringBuilder rows = new StringBuilder();
        for (int what = 0; what <= 12; what++) {
            rows.append("count(").append(what).append(") 0\n");
        }
        Script.rows(rows.toString(), """
            count(13) 1
            told(0, 0) BAD
            of(0, 0) BAD
            where(0, 0) BAD
            breach(0) NONE
            story() 0
            unready(-1) 0
            may() 0
            clear() 0
            choose(0) BAD
            understudy(0, 9, 0) BAD
            shifts(-1) 0
            shifts(0) BAD
            shift() 0
            led() NONE
            log(0, 0) NONE
            mark(0, 0, 1) NOTHING
            mark(3, 0, 1) NOTHING
            ask(0, 0) NOTHING
            item(4, 0) NOTHING
            rest(2, 1) NOTHING
            back() NO
            check(1) NO
            wet(0) 0
            textTold(0, 0) BAD
            wear(0, 0) BAD
            in(0) BAD
            text() fault 0
            restAll() 0
            show(1) 0
            seed(5) 1
            """);
        Script.rows("lay(0, 0, 0) 0", "lay(4, 0, 0) 0", "trim(0) 0", "trim(1) BAD", "keep() 0", "back() 0");
    }

    private static void personCall() {
        Sentences.promise(2, "One more of PEOPLE: the number.");
        Script.rows("person(0, 0) 0", "person(0, 0) 1", "person(117, 9) 2", "count(0) 3", "told(2, 0) 117", "told(2, 1) 9");
        Sentences.promise(2, "BAD: place, skill; FULL.");
        Script.rows("""
            person(-1, 0) BAD
            person(8, 0) BAD
            person(120, 0) BAD
            person(0, -1) BAD
            person(0, 10) BAD
            person(0, MIN) BAD
            person(0, MAX) BAD
            count(0) 0
            person(0, 0) 0
            person(0, 9) 1
            person(3, 3) 2
            person(3, 3) 3
            person(3, 3) 4
            person(3, 3) 5
            person(3, 3) 6
            person(3, 3) 7
            2 x person(3, 3) FULL
            person(8, 3) BAD               # ahead of FULL
            person(3, 10) BAD
            person(3, -1) BAD
            """);
    }

    private static void toldCall() {
        Sentences.promise(3, "Of a PERSON: what 0 the PLACE where they begin, 1 SKILL, 2 TIRED, 3 WEAPON (NONE), 4 LATE. BAD.");
        Script.rows("""
            person(33, 4) 0
            person(77, 9) 1
            move(0, 1, 1, 44, 10) 0
            weapon() 0
            weapon() 1
            set(0, 2, 30) 0
            where(0, 50) 44
            told(0, 0) 33
            told(0, 1) 4
            told(0, 2) 30
            told(0, 3) NONE
            told(0, 4) 2
            out(1, 0) 1
            told(0, 3) 1
            told(1, 3) NONE
            out(0, 1) 1
            told(1, 3) 0
            told(1, 4) 0
            told(0, -1) BAD
            told(0, 5) BAD
            told(0, MIN) BAD
            told(0, MAX) BAD
            told(-1, 0) BAD
            told(2, 0) BAD
            told(MIN, 0) BAD
            told(MAX, 4) BAD
            """);
    }

    private static void setCall() {
        Sentences.promise(4, "SKILL (what 1) or TIRED (2; 0 .. 99) of a PERSON becomes v: what it was. BAD.");
        Script.rows("""
            person(33, 4) 0
            person(77, 7) 1
            set(0, 1, 0) 4
            set(0, 1, 9) 0
            told(0, 1) 9
            set(0, 1, -1) BAD
            set(0, 1, 10) BAD
            set(0, 1, MIN) BAD
            set(0, 1, MAX) BAD
            set(0, 2, 99) 0
            set(0, 2, 10) 99
            set(0, 2, 0) 10
            set(0, 2, -1) BAD
            set(0, 2, 100) BAD
            set(0, 2, MIN) BAD
            set(0, 2, MAX) BAD
            set(0, 0, 5) BAD
            set(0, 3, 5) BAD
            set(0, -1, 5) BAD
            set(0, 4, 1) BAD
            set(0, MAX, 5) BAD
            set(0, MIN, 5) BAD
            set(-1, 1, 5) BAD
            set(2, 1, 5) BAD
            set(MAX, 2, 5) BAD
            set(MIN, 2, 5) BAD
            told(1, 1) 7
            set(1, 1, 0) 7
            set(1, 2, 99) 0
            told(0, 1) 9
            told(0, 2) 0
            """);
    }

    private static void moveCall() {
        Sentences.promise(5, "One more MOVE (time: 10 times BEAT, and LONG; aim: 10 times AIM, and SPAN): its number.");
        Script.rows(THREE, """
            move(2, 4, 904, 117, 19) 0
            move(0, 3, 1, 0, 20) 1
            of(0, 0) 2
            of(0, 1) 4
            of(0, 2) 90
            of(0, 3) 4
            of(0, 4) 117
            of(0, 5) 1
            of(0, 6) 9
            of(1, 2) 0
            of(1, 3) 1
            of(1, 4) 0
            of(1, 5) 2
            of(1, 6) 0
            """);
        Sentences.promise(5, "BAD: person, kind, time, to, aim (also the same PERSON); NO: a beat in common; FULL (ahead of NO).");
        Script.rows(THREE, """
            move(-1, 0, 11, 0, 10) BAD
            move(3, 0, 11, 0, 10) BAD
            move(MIN, 0, 11, 0, 10) BAD
            move(MAX, 0, 11, 0, 10) BAD
            move(0, -1, 11, 0, 10) BAD
            move(0, 6, 11, 0, 10) BAD
            move(0, MIN, 11, 0, 10) BAD
            move(0, MAX, 11, 0, 10) BAD
            move(0, 0, 0, 0, 10) BAD       # LONG 0
            move(0, 0, 5, 0, 10) BAD       # LONG 5
            move(0, 0, -9, 0, 10) BAD
            move(0, 0, 911, 0, 10) BAD
            move(0, 0, 11, 8, 10) BAD
            move(0, 0, 11, 120, 10) BAD
            move(0, 0, 11, -1, 10) BAD
            move(0, 0, 11, 0, 0) BAD       # the same PERSON
            move(0, 0, 11, 0, 9) BAD
            move(0, 0, 11, 0, 30) BAD
            move(0, 0, 11, 0, -1) BAD
            count(1) 0
            move(0, 0, 11, 0, 10) 0
            move(0, 6, 11, 0, 10) BAD      # ahead of NO
            move(0, 0, 11, 8, 10) BAD
            move(0, 0, 11, 0, 5) BAD
            move(0, 0, 11, 0, 10) NO
            """);
        StringBuilder rows = new StringBuilder(THREE);
        for (int i = 0; i < 20; i++) {
            rows.append("move(0, 0, ").append(40 * i + 4).append(", 0, 10) ").append(i).append('\n');
        }
        Script.rows(rows.toString(), """
            move(0, 0, 804, 0, 10) FULL
            move(0, 0, 793, 0, 10) FULL    # ahead of NO
            move(0, 0, 795, 0, 10) BAD     # ahead of FULL
            move(0, 0, 804, 0, 0) BAD
            move(3, 0, 804, 0, 10) BAD
            move(0, 6, 804, 0, 10) BAD
            move(0, 0, 804, 118, 10) BAD
            """);
    }

    private static void ofCall() {
        Sentences.promise(6, """
            Of a MOVE: what 0 PERSON, 1 KIND, 2 BEAT, 3 LONG, 4 TO, 5 AIM, 6 SPAN, 7 whether CUT (1, 0), 8 REACH, 9 WORTH,
            10 TIRES, 11 WEARS, 12 whether BARRED (1, 0). BAD.""");
        int[] due = {1, 3, 47, 2, 106, 2, 8, 0, 3, 7, 3, 2, 0};
        StringBuilder rows = new StringBuilder(THREE);
        rows.append("move(0, 0, 11, 0, 10) 0\nmove(1, 3, 472, 106, 28) 1\n");
        for (int what = 0; what <= 12; what++) {
            rows.append("of(1, ").append(what).append(") ").append(due[what]).append('\n');
        }
        Script.rows(rows.toString(), """
            cut(1, true) 1
            of(1, 7) 1
            of(0, 7) 0
            'bar k=3' 0
            of(1, 12) 1
            of(0, 12) 0
            'bar (0-1)*(k=0)' 1
            of(1, 12) 0
            of(0, 12) 1
            of(1, -1) BAD
            of(1, 13) BAD
            of(1, MIN) BAD
            of(1, MAX) BAD
            of(-1, 0) BAD
            of(2, 0) BAD
            of(MIN, 0) BAD
            of(MAX, 12) BAD
            """);
    }

    private static void asCall() {
        Sentences.promise(7, "A MOVE as one of a KIND: its SPAN. BAD: move, kind; KIND: it is not of that KIND, nor of one under it.");
        boolean[][] under = {
            {true, false, false, false, false, false}, {true, true, false, false, false, false},
            {true, false, true, false, false, false}, {true, false, true, true, false, false},
            {true, false, true, false, true, false}, {true, false, false, false, false, true}};
        StringBuilder rows = new StringBuilder(THREE);
        for (int kind = 0; kind < 6; kind++) {
            rows.append("move(0, ").append(kind).append(", ").append(10 * kind + 1).append(", 0, ").append(14 + kind).append(") ")
                .append(kind).append('\n');
        }
        for (int move = 0; move < 6; move++) {
            for (int kind = 0; kind < 6; kind++) {
                rows.append("as(").append(move).append(", ").append(kind).append(") ")
                    .append(under[move][kind] ? Integer.toString(4 + move) : "KIND").append('\n');
            }
        }
        Script.rows(rows.toString(), """
            as(0, -1) BAD
            as(0, 6) BAD
            as(5, MIN) BAD
            as(5, MAX) BAD
            as(-1, 0) BAD
            as(6, 0) BAD
            as(MIN, 2) BAD
            as(MAX, 2) BAD
            """);
    }

    private static void cutCall() {
        Sentences.promise(8, "A MOVE is CUT, or no more: 1 if that is new, else 0. BAD.");
        Script.rows(THREE, """
            move(0, 0, 11, 0, 10) 0
            move(0, 2, 21, 0, 10) 1
            cut(0, false) 0
            cut(1, true) 1
            cut(1, true) 0
            of(1, 7) 1
            of(0, 7) 0
            count(2) 1
            cut(1, false) 1
            cut(1, false) 0
            count(2) 0
            cut(-1, true) BAD
            cut(2, true) BAD
            cut(2, false) BAD
            cut(MIN, true) BAD
            cut(MAX, true) BAD
            """);
    }

    private static void wetCall() {
        Sentences.promise(9, "WET becomes v (0, 1): what it was. BAD.");
        Script.rows("""
            person(0, 9) 0
            wet(0) 0
            wet(1) 0
            told(0, 4) 1
            wet(1) 1
            wet(2) BAD
            wet(-1) BAD
            wet(MIN) BAD
            wet(MAX) BAD
            wet(0) 1
            told(0, 4) 0
            wet(2) BAD
            wet(-1) BAD
            """);
    }

    private static void whereCall() {
        Sentences.promise(10, "WHERE a PERSON is at a beat (-9 .. 99). BAD.");
        Script.rows(THREE, """
            where(0, -10) BAD
            where(0, 100) BAD
            where(0, MIN) BAD
            where(0, MAX) BAD
            where(0, -9) 0
            where(0, 99) 0
            where(1, -9) 117
            where(2, 99) 55
            where(-1, 0) BAD
            where(3, 0) BAD
            where(MIN, 0) BAD
            where(MAX, 0) BAD
            move(2, 1, 904, 0, 0) 0
            where(2, 89) 55
            where(2, 99) 0
            where(2, 100) BAD
            where(2, -10) BAD
            """);
    }
}
