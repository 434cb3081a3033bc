/** Edges of weapons and shows: the rest of 'Terms' 4, and the promises 30 to 38. */
final class ShowEdges {
    private ShowEdges() {
    }

    static void all() {
        weapons();
        dull();
        drawn();
        lateByTired();
        nearMisses();
        someBeat();
        order();
        behind();
        rests();
        log();
        led();
        weaponCall();
        outCall();
        inCall();
        wearCall();
        seedCall();
        showCall();
        restAllCall();
        logCall();
        ledCall();
    }

    private static int next(int z) {
        return z * 1103515245 + 12345;
    }

    private static void weapons() {
        Sentences.terms(4, "WEAPONS, 6 at most, numbered from 0: WEAR 0 .. 99 (0 at first); OUT to a PERSON, or IN.");
        StringBuilder rows = new StringBuilder("person(33, 9) 0\nperson(77, 9) 1\n");
        for (int i = 0; i < 6; i++) {
            rows.append("weapon() ").append(i).append("\nwear(").append(i).append(", 0) 0\nwear(").append(i).append(", 1) NONE\n");
        }
        Script.rows(rows.toString(), """
            2 x weapon() FULL
            count(7) 6
            out(5, 1) 1
            wear(5, 1) 1
            wear(4, 1) NONE
            count(8) 1
            """);
        // Two blows wear by 2 a show: 98 and 99 at last, and no more.
        Script.rows(STRIKES, "move(0, 2, 201, 33, 10) 1", "out(0, 0) 1", "show(20) 0", "show(20) 0", "wear(0, 0) 80", "show(9) 0",
            "wear(0, 0) 98", "show(1) 0", "wear(0, 0) 99", "show(1) 0", "wear(0, 0) 99", "show(20) 0", "wear(0, 0) 99");
    }

    /** 0 has one blow, which wears by 1 a show; nobody is ever late. */
    private static final String STRIKES = """
        person(33, 9) 0
        person(113, 9) 1
        'late 0' 0
        move(0, 2, 101, 33, 10) 0
        weapon() 0
        weapon() 1
        """;

    private static void dull() {
        Sentences.terms(4, "DULL is one with WEAR above 20.");
        Script.rows(STRIKES, """
            wear(0, 2) 0
            out(0, 0) 1
            show(19) 0
            wear(0, 2) 0
            show(1) 0
            wear(0, 0) 20
            wear(0, 2) 0
            in(0) 0
            out(0, 1) 1                    # 20 is not above 20
            in(0) 1
            out(0, 0) 1
            show(1) 0
            wear(0, 0) 21
            wear(0, 2) 1
            wear(0, 1) 0                   # it stays OUT
            told(0, 3) 0
            show(1) 0
            wear(0, 0) 22
            in(0) 0
            out(0, 0) NO
            out(0, 1) NO
            out(1, 0) 1
            wear(1, 2) 0
            """);
    }

    private static void drawn() {
        Sentences.terms(4, """
            A SHOW: for each PERSON, by numbers, z becomes z * 1103515245 + 12345 (an int; told, 1 at first), and they are late by
            (z >>> 8) % (LATE and 1), all through.""");
        Script.rows("count(13) 1", "show(20) 0", "count(13) 1");
        int z = 1;
        for (int people = 1; people <= 8; people++) {
            z = next(z);
            StringBuilder rows = new StringBuilder();
            for (int i = 0; i < people; i++) {
                rows.append("person(").append(i).append(", 0) ").append(i).append('\n');
            }
            Script.rows(rows.toString(), "show(1) 0", "count(13) " + z);
        }
        int[] seeds = {0, 1, -1, 2, 77, 12345, -987654321, Integer.MAX_VALUE, Integer.MIN_VALUE, 1 << 30, 424242, -31};
        for (int late = 0; late <= 3; late++) {
            for (int seed : seeds) {
                int own = (next(seed) >>> 8) % (late + 1);
                int other = (next(next(seed)) >>> 8) % (late + 1);
                // Three blows: as many miss as who goes away at beat 10, or who strikes, is late.
                Script.rows("person(33, 0) 0", "person(43, " + late + ") 1", "'late s' 0", "seed(" + seed + ") 1",
                    "move(0, 2, 101, 33, 12) 0", "move(0, 2, 111, 33, 12) 1", "move(0, 2, 121, 33, 12) 2",
                    "move(1, 1, 101, 113, 0) 3", "show(1) " + other, "count(13) " + next(next(seed)));
                Script.rows("person(33, " + late + ") 0", "person(113, 0) 1", "'late s' 0", "seed(" + seed + ") 1",
                    "move(0, 2, 101, 33, 12) 0", "move(0, 2, 111, 33, 12) 1", "move(0, 2, 121, 33, 12) 2",
                    "move(1, 1, 131, 43, 0) 3", "show(1) " + own, "count(13) " + next(next(seed)));
            }
        }
    }

    private static void lateByTired() {
        Sentences.terms(4, "they are late by (z >>> 8) % (LATE and 1)");
        // Who goes away at beat 10 is tired by 24, and by 25 behind the first show: only then late by 1, or not.
        for (int seed = 0; seed < 12; seed++) {
            int z = next(next(next(next(seed * 7919))));
            int late = (z >>> 8) % 2;
            Script.rows("person(33, 9) 0", "person(43, 9) 1", "set(1, 2, 24) 0", "seed(" + seed * 7919 + ") 1",
                "move(0, 2, 101, 33, 12) 0", "move(1, 1, 101, 113, 0) 1", "show(2) " + late, "told(1, 2) 26", "count(13) " + z);
            Script.rows("person(33, 9) 0", "person(43, 9) 1", "set(1, 2, 24) 0", "seed(" + seed * 7919 + ") 1",
                "move(0, 2, 101, 33, 12) 0", "move(1, 1, 101, 113, 0) 1", "show(1) 0", "told(1, 4) 1", "show(1) " + late);
        }
    }

    private static void nearMisses() {
        Sentences.terms(4, """
            NEAR MISSES: BLOWS (not CUT) by numbers, and for each each other PERSON by numbers to whom DISTANCE less REACH is less
            than SPAN (the AIM: half of it, cut) at some beat of it, so late.""");
        int[] reaches = {0, 0, 2, 3, 1};
        for (int kind = 0; kind <= 5; kind++) {
            boolean blow = kind >= 2 && kind <= 4;
            for (int span = 0; span <= 9; span++) {
                for (int far = 0; far <= 11; far++) {
                    int gap = blow ? far - reaches[kind] : 99;
                    String move = "move(0, " + kind + ", 11, 0, " + (10 + span) + ") 0";
                    Script.rows("person(0, 9) 0", "person(" + 10 * far + ", 9) 1", move, "show(1) " + (gap < span / 2 ? 1 : 0));
                    Script.rows("person(0, 9) 0", "person(110, 9) 1", "person(" + 10 * far + ", 9) 2", move,
                        "show(1) " + (gap < span ? 1 : 0));
                }
            }
        }
    }

    private static void someBeat() {
        Sentences.terms(4, "at some beat of it, so late.");
        // Near at one beat alone; a blow of 1 to 4 beats from beat 50 on; nobody is late.
        for (int length = 1; length <= 4; length++) {
            for (int beat = 48; beat <= 56; beat++) {
                int miss = beat >= 50 && beat < 50 + length ? 1 : 0;
                Script.rows("person(33, 9) 0", "person(113, 9) 1", "'late 0' 0", "move(0, 2, " + (500 + length) + ", 33, 12) 0",
                    "move(1, 1, " + (10 * beat + 1) + ", 43, 0) 1", "move(1, 1, " + (10 * beat + 11) + ", 113, 0) 2", "show(1) " + miss);
            }
        }
        // A blow counts once for one person, at however many beats they are near.
        Script.rows("person(33, 9) 0", "person(43, 9) 1", "move(0, 2, 504, 33, 12) 0", "show(1) 1", "count(10) 1");
        // At beat 0, who is late by 1 is where they begin.
        for (int seed = 0; seed < 8; seed++) {
            int late = (next(next(seed * 104729)) >>> 8) % 4;
            Script.rows("person(33, 0) 0", "person(43, 3) 1", "'late s' 0", "seed(" + seed * 104729 + ") 1", "move(0, 2, 1, 33, 12) 0",
                "move(1, 1, 1, 113, 0) 1", "show(1) " + (late > 0 ? 1 : 0));
            Script.rows("person(33, 0) 0", "person(113, 3) 1", "'late s' 0", "seed(" + seed * 104729 + ") 1", "move(0, 2, 1, 33, 12) 0",
                "move(1, 1, 1, 43, 0) 1", "show(1) " + (late > 0 ? 0 : 1));
            int first = (next(seed * 104729) >>> 8) % 4;
            Script.rows("person(113, 3) 0", "person(33, 0) 1", "'late s' 0", "seed(" + seed * 104729 + ") 1", "move(0, 1, 1, 43, 10) 0",
                "move(1, 2, 1, 33, 2) 1", "show(1) " + (first > 0 ? 0 : 1));
        }
    }

    private static void order() {
        Sentences.terms(4, "BLOWS (not CUT) by numbers, and for each each other PERSON by numbers");
        Script.rows("""
            person(33, 9) 0
            person(34, 9) 1
            person(35, 9) 2
            'late 0' 0
            move(1, 2, 501, 34, 22) 0      # later, but of a lower number
            move(2, 3, 101, 35, 2) 1
            move(0, 4, 301, 33, 13) 2
            show(1) 6
            log(0, 1) 0
            log(0, 2) 0
            log(1, 1) 0
            log(1, 2) 2
            log(2, 1) 1
            log(2, 2) 0
            log(3, 1) 1
            log(3, 2) 1
            log(4, 1) 2
            log(4, 2) 1
            log(5, 1) 2
            log(5, 2) 2
            log(6, 0) NONE
            cut(1, true) 1
            show(1) 4
            log(8, 1) 2
            cut(0, true) 1
            cut(2, true) 1
            show(1) 0
            """);
    }

    private static void behind() {
        Sentences.terms(4, """
            Behind it: each PERSON is TIRED by what their MOVES (not CUT) TIRE more (99 at most), their WEAPON (if OUT to them) by
            what these WEAR more (99 at most); SHOWS are 1 more.""");
        int[] tires = {1, 1, 2, 3, 2, 3};
        int[] wears = {0, 0, 1, 2, 0, 0};
        for (int kind = 0; kind <= 5; kind++) {
            Script.rows("person(0, 9) 0", "person(110, 9) 1", "weapon() 0", "weapon() 1", "weapon() 2", "out(2, 0) 1", "out(1, 1) 1",
                "move(0, " + kind + ", 11, 0, 10) 0", "show(1) 0", "told(0, 2) " + tires[kind], "told(1, 2) 0",
                "wear(2, 0) " + wears[kind], "wear(1, 0) 0", "wear(0, 0) 0", "count(9) 1", "cut(0, true) 1", "show(1) 0",
                "told(0, 2) " + tires[kind], "wear(2, 0) " + wears[kind], "count(9) 2");
        }
        Script.rows("""
            person(0, 9) 0
            person(110, 9) 1
            'late 0' 0
            weapon() 0
            out(0, 0) 1
            move(0, 3, 11, 0, 10) 0
            move(0, 3, 21, 0, 10) 1
            show(1) 0
            told(0, 2) 6                   # both together
            wear(0, 0) 4
            set(0, 2, 92) 6
            show(1) 0
            told(0, 2) 98
            show(1) 0
            told(0, 2) 99                  # 104, but 99 at most
            show(1) 0
            told(0, 2) 99
            set(0, 2, 93) 99
            show(1) 0
            told(0, 2) 99                  # just 99
            wear(0, 0) 20
            in(0) 0
            show(1) 0
            wear(0, 0) 20                  # it is IN
            count(9) 6
            """);
        Script.rows("count(9) 0", "show(1) 0", "count(9) 1", "show(20) 0", "count(9) 21");
    }

    private static void rests() {
        Sentences.terms(4, "A REST: all are TIRED 10 less (0 at least).");
        Script.rows("""
            person(0, 9) 0
            person(0, 9) 1
            person(0, 9) 2
            person(0, 9) 3
            person(0, 9) 4
            set(0, 2, 9) 0
            set(1, 2, 10) 0
            set(2, 2, 11) 0
            set(3, 2, 99) 0
            restAll() 2
            told(0, 2) 0
            told(1, 2) 0
            told(2, 2) 1
            told(3, 2) 89
            told(4, 2) 0
            restAll() 1
            told(2, 2) 0
            told(3, 2) 79
            """);
    }

    /** One blow too near to two: two near misses a show; nobody is late. */
    private static final String MISSES = """
        person(33, 9) 0
        person(34, 9) 1
        person(43, 9) 2
        'late 0' 0
        move(0, 2, 101, 33, 12) 0
        """;

    private static void log() {
        Sentences.terms(4, "THE LOG keeps NEAR MISSES (30 at most; others are left out): SHOW, MOVE, PERSON.");
        Script.rows(MISSES, "show(14) 28", "count(10) 28", "show(1) 2", "count(10) 30", "log(29, 0) 14", "log(29, 2) 2", "show(1) 2",
            "count(10) 30", "log(29, 0) 14", "log(30, 0) NONE", "show(20) 40", "count(10) 30", "log(0, 0) 0", "log(1, 2) 2");
        // At 29 rows the first of two is kept, the second one is left out.
        Script.rows(MISSES, "move(2, 1, 1, 113, 0) 1", "show(9) 9", "show(20) 20", "count(10) 29", "cut(1, true) 1", "show(1) 2",
            "count(10) 30", "log(29, 0) 29", "log(29, 2) 1", "log(30, 2) NONE");
        // More than 30 of one show.
        StringBuilder rows = new StringBuilder();
        for (int i = 0; i < 8; i++) {
            rows.append("person(33, 9) ").append(i).append('\n');
        }
        for (int i = 0; i < 5; i++) {
            rows.append("move(").append(i).append(", 3, 901, 33, ").append(i == 0 ? 10 : 0).append(") ").append(i).append('\n');
        }
        Script.rows(rows.toString(), "show(1) 35", "count(10) 30", "log(27, 1) 3", "log(28, 1) 4", "log(29, 1) 4", "log(29, 2) 1",
            "log(30, 1) NONE", "led() 0");
    }

    private static void led() {
        Sentences.terms(4, "LED: the MOVE that has most of those kept; of several the least.");
        Script.rows("""
            person(33, 9) 0
            person(34, 9) 1
            'late 0' 0
            move(0, 1, 11, 33, 10) 0
            move(0, 2, 101, 33, 12) 1
            move(0, 2, 111, 33, 12) 2
            move(0, 2, 121, 33, 12) 3
            led() NONE
            show(1) 3
            led() 1                        # of three the least
            cut(1, true) 1
            show(1) 2
            led() 2                        # of two the least
            cut(2, true) 1
            show(1) 1
            led() 3
            cut(3, true) 1
            cut(1, false) 1
            show(2) 2
            led() 1                        # three each: the least
            cut(1, true) 1
            cut(3, false) 1
            show(12) 12
            led() 3
            cut(3, true) 1
            cut(2, false) 1
            show(20) 20
            count(10) 30
            led() 3                        # 15 kept, of the other one 12
            led() 3
            """);
        Script.rows(MISSES, """
            move(1, 2, 201, 34, 2) 1
            cut(0, true) 1
            show(2) 4
            cut(0, false) 1
            cut(1, true) 1
            show(1) 2
            3 x led() 1                    # asked again and again
            """);
    }

    private static void weaponCall() {
        Sentences.promise(30, "One more WEAPON, IN: its number. FULL.");
        Script.rows("weapon() 0", "in(0) NO", "weapon() 1", "wear(1, 1) NONE", "weapon() 2", "weapon() 3", "weapon() 4", "weapon() 5",
            "in(5) NO", "weapon() FULL", "count(7) 6", "count(8) 0", "wear(6, 0) BAD");
    }

    private static final String HELD = """
        person(33, 9) 0
        person(113, 9) 1
        person(3, 9) 2
        weapon() 0
        weapon() 1
        weapon() 2
        """;

    private static void outCall() {
        Sentences.promise(31, "A WEAPON goes OUT to a PERSON: 1. BAD; NO: it is OUT, DULL, or they have one.");
        Script.rows("out(0, 0) BAD", "weapon() 0", "out(0, 0) BAD", "person(0, 9) 0", "out(0, 0) 1");
        Script.rows(HELD, """
            out(-1, 0) BAD
            out(3, 0) BAD
            out(0, -1) BAD
            out(0, 3) BAD
            out(MIN, 0) BAD
            out(MAX, 0) BAD
            out(0, MIN) BAD
            out(0, MAX) BAD
            out(2, 0) 1
            told(0, 3) 2
            out(2, 1) NO                   # it is OUT
            out(2, 0) NO
            out(1, 0) NO                   # they have one
            out(2, 3) BAD                  # ahead of NO
            out(0, 2) 1
            out(1, 1) 1
            count(8) 3
            in(2) 0
            out(2, 1) NO
            out(2, 0) 1
            """);
        Script.rows(STRIKES, "out(1, 0) 1", "show(20) 0", "show(1) 0", "in(1) 0", "out(1, 1) NO", "out(1, 0) NO", "out(1, 2) BAD",
            "out(0, 0) 1", "out(1, 0) NO");
    }

    private static void inCall() {
        Sentences.promise(32, "A WEAPON comes IN: who had it. BAD; NO: it is IN.");
        Script.rows("in(0) BAD", "in(-1) BAD");
        Script.rows(HELD, """
            in(0) NO
            in(2) NO
            out(0, 2) 1
            out(2, 0) 1
            in(1) NO
            in(0) 2
            told(2, 3) NONE
            told(0, 3) 2
            in(0) NO
            in(2) 0
            in(3) BAD
            in(-1) BAD
            in(MIN) BAD
            in(MAX) BAD
            """);
    }

    private static void wearCall() {
        Sentences.promise(33, "Of a WEAPON: what 0 WEAR, 1 who has it (NONE), 2 whether DULL (1, 0). BAD.");
        Script.rows(STRIKES, """
            out(1, 0) 1
            wear(1, 1) 0
            wear(0, 1) NONE
            show(20) 0
            show(3) 0
            wear(1, 0) 23
            wear(1, 2) 1
            wear(0, 0) 0
            wear(0, 2) 0
            wear(0, -1) BAD
            wear(0, 3) BAD
            wear(0, MIN) BAD
            wear(0, MAX) BAD
            wear(2, 0) BAD
            wear(-1, 0) BAD
            wear(MIN, 0) BAD
            wear(MAX, 0) BAD
            in(1) 0
            wear(1, 1) NONE
            wear(1, 0) 23
            """);
    }

    private static void seedCall() {
        Sentences.promise(34, "z becomes v: what it was.");
        Script.rows("seed(0) 1", "seed(MAX) 0", "seed(MIN) MAX", "count(13) MIN", "seed(-1) MIN", "seed(1) -1", "count(13) 1");
    }

    private static void showCall() {
        Sentences.promise(35, "n (1 .. 20) SHOWS are done (whether they may be or not): NEAR MISSES together.");
        Script.rows(MISSES, "may() 1", "show(1) 2", "show(20) 40", "show(2) 4", "count(9) 23");
        Script.rows(MISSES, "cut(0, true) 1", "'bar 1' 1", "move(0, 1, 11, 33, 10) 1", "may() 2", "show(1) 0", "count(9) 1",
            "'bar 0' 2", "'hours 9' 3", "may() 3", "show(1) 0", "count(9) 2");
        Sentences.promise(35, "BAD; FULL: SHOWS would be above 999.");
        Script.rows(MISSES, "show(0) BAD", "show(21) BAD", "show(-1) BAD", "show(MIN) BAD", "show(MAX) BAD", "count(9) 0", "count(13) 1");
        Script.rows("49 x show(20) 0", """
            count(9) 980
            show(20) FULL
            show(19) 0
            count(9) 999
            show(1) FULL
            show(20) FULL
            show(0) BAD                    # ahead of FULL
            show(21) BAD
            show(-1) BAD
            show(MAX) BAD
            """);
        Script.rows("49 x show(20) 0", "show(18) 0", "show(2) FULL", "show(1) 0", "show(1) FULL");
    }

    private static void restAllCall() {
        Sentences.promise(36, "A REST: how many are TIRED still.");
        Script.rows("restAll() 0", "person(0, 9) 0", "restAll() 0", "set(0, 2, 10) 0", "restAll() 0", "set(0, 2, 11) 0", "restAll() 1",
            "restAll() 0", "person(0, 9) 1", "set(0, 2, 99) 0", "set(1, 2, 99) 0", "8 x restAll() 2", "told(0, 2) 19", "restAll() 2",
            "restAll() 0", "told(0, 2) 0");
    }

    private static void logCall() {
        Sentences.promise(37, """
            Of THE LOG's i-th: what 0 SHOW (from 0 on), 1 MOVE, 2 PERSON. BAD: what, i below 0; NONE: there are not so many.""");
        Script.rows("log(0, 0) NONE", "log(0, 2) NONE", "log(MAX, 1) NONE", "log(-1, 0) BAD", "log(0, 3) BAD", "log(0, -1) BAD");
        Script.rows(MISSES, """
            show(1) 2
            log(0, 0) 0
            log(0, 1) 0
            log(0, 2) 1
            log(1, 0) 0
            log(1, 2) 2
            log(2, 0) NONE
            log(2, 1) NONE
            log(29, 2) NONE
            log(30, 0) NONE
            log(MAX, 0) NONE
            log(715827883, 0) NONE         # three times that wraps around
            log(-1, 0) BAD
            log(MIN, 0) BAD
            log(0, -1) BAD
            log(0, 3) BAD
            log(0, MIN) BAD
            log(0, MAX) BAD
            log(2, 3) BAD                  # ahead of NONE
            log(2, -1) BAD
            show(2) 4
            log(2, 0) 1
            log(5, 0) 2
            log(6, 0) NONE
            """);
    }

    private static void ledCall() {
        Sentences.promise(38, "LED. NONE: THE LOG is empty.");
        Script.rows("led() NONE", "show(20) 0", "led() NONE");
        Script.rows(MISSES, "led() NONE", "cut(0, true) 1", "show(3) 0", "led() NONE", "cut(0, false) 1", "show(1) 2", "led() 0");
        // The last move of all.
        StringBuilder rows = new StringBuilder("person(33, 9) 0\nperson(34, 9) 1\n");
        for (int i = 0; i < 20; i++) {
            rows.append("move(0, ").append(i == 19 ? 2 : 0).append(", ").append(10 * i + 1).append(", 33, 12) ").append(i).append('\n');
        }
        Script.rows(rows.toString(), "show(1) 1", "led() 19");
    }
}
