/** Edges of lateness, gaps, signs and what the house sees: 'Terms' 2, and the promises 11 to 17. */
final class BlowEdges {
    private BlowEdges() {
    }

    static void all() {
        late();
        lateDoes();
        gaps();
        keeps();
        breaches();
        signs();
        seen();
        story();
        gapCall();
        keepsCall();
        breachCall();
        signCall();
        unreadyCall();
        seenCall();
        storyCall();
    }

    private static void late() {
        Sentences.terms(2, """
            LATE of a PERSON: how many beats they may be late, 0 .. 3 held: by the law, or without one (9 - SKILL) by 3 and TIRED
            by 25 and WET (0 or 1; 0 at first), each cut.""");
        int[] bySkill = {3, 2, 2, 2, 1, 1, 1, 0, 0, 0};
        for (int skill = 0; skill <= 9; skill++) {
            Script.rows("person(0, " + skill + ") 0", "told(0, 4) " + bySkill[skill], "wet(1) 0",
                "told(0, 4) " + Math.min(3, bySkill[skill] + 1));
        }
        Script.rows("""
            person(0, 9) 0
            set(0, 2, 24) 0
            told(0, 4) 0
            set(0, 2, 25) 24
            told(0, 4) 1
            set(0, 2, 49) 25
            told(0, 4) 1
            set(0, 2, 50) 49
            told(0, 4) 2
            set(0, 2, 74) 50
            told(0, 4) 2
            set(0, 2, 75) 74
            told(0, 4) 3
            set(0, 2, 99) 75
            told(0, 4) 3
            wet(1) 0
            told(0, 4) 3                   # 4, held
            set(0, 1, 0) 9
            told(0, 4) 3                   # 7, held
            set(0, 1, 7) 0
            set(0, 2, 24) 99
            wet(0) 1
            told(0, 4) 0                   # 2 / 3 and 24 / 25, each cut
            set(0, 2, 49) 24
            told(0, 4) 1
            """);
        Script.rows("""
            person(0, 9) 0
            'late 3' 0
            told(0, 4) 3
            'late 4' 1
            told(0, 4) 3
            'late 9999*9999' 2
            told(0, 4) 3
            'late 0-1' 3
            told(0, 4) 0
            'late 0-9999*9999' 4
            told(0, 4) 0
            'late 9999*9999*22' 5
            told(0, 4) 0                   # wrapped below 0
            'late 2' 6
            told(0, 4) 2
            'late 1' 7
            told(0, 4) 1
            'late 0' 8
            told(0, 4) 0
            set(0, 1, 0) 9
            set(0, 2, 99) 0
            wet(1) 0
            told(0, 4) 0                   # by the law alone
            """);
    }

    private static void lateDoes() {
        Sentences.terms(2, "One who is late by d does at beat t what they would at beat t - d.");
        for (int beat = 6; beat <= 16; beat++) {
            for (int seed = 0; seed < 8; seed++) {
                int z = seed * 1000003;
                z = z * 1103515245 + 12345;
                int own = (z >>> 8) % 4;
                z = z * 1103515245 + 12345;
                int other = (z >>> 8) % 4;
                // The blow is done at beat + own; who goes away at beat 10 stands near up to beat 9, done at 9 + other.
                int miss = beat + own <= 9 + other ? 1 : 0;
                Script.rows("person(33, 9) 0", "person(43, 9) 1", "'late 3' 0", "move(0, 2, " + beat + "1, 0, 12) 0",
                    "move(1, 1, 101, 113, 0) 1", "seed(" + seed * 1000003 + ") 1", "show(1) " + miss);
            }
        }
    }

    /** 1 is near to 0, who strikes at the beats 10 and 11, at one beat alone; by this law LATE is SKILL, 3 at most. */
    private static void gaps() {
        Sentences.terms(2, """
            GAP of a BLOW (of all KINDS under it) to another PERSON (each but whose it is): the least DISTANCE of both, less
            REACH, at any beat of the BLOW (as it is done: d beats later, if whose it is is late by d), for all d of 0 .. LATE
            of whose BLOW it is, all e of 0 .. LATE of the other one.""");
        for (int own = 0; own <= 3; own++) {
            for (int other = 0; other <= 3; other++) {
                for (int beat = 5; beat <= 17; beat++) {
                    int due = beat >= 10 - other && beat <= 11 + own ? -1 : 6;
                    Script.rows("person(33, " + own + ") 0", "person(113, " + other + ") 1", "'late s' 0",
                        "move(0, 2, 102, 33, 10) 0", "move(1, 1, " + (10 * beat + 1) + ", 43, 0) 1",
                        "move(1, 1, " + (10 * beat + 11) + ", 113, 0) 2", "gap(0, 1) " + due);
                }
            }
        }
        for (int kind = 2; kind <= 4; kind++) {
            int reach = new int[] {0, 0, 2, 3, 1}[kind];
            for (int length = 1; length <= 4; length++) {
                // They come at the last beat, and at the one behind it.
                Script.rows("person(33, 9) 0", "person(113, 9) 1", "move(0, " + kind + ", " + (500 + length) + ", 0, 10) 0",
                    "move(1, 1, " + (10 * (49 + length) + 1) + ", 33, 0) 1", "gap(0, 1) " + -reach);
                Script.rows("person(33, 9) 0", "person(113, 9) 1", "move(0, " + kind + ", " + (500 + length) + ", 0, 10) 0",
                    "move(1, 1, " + (10 * (50 + length) + 1) + ", 33, 0) 1", "gap(0, 1) " + (8 - reach));
            }
        }
        Script.rows("""
            person(3, 0) 0
            person(63, 9) 1
            move(0, 2, 101, 0, 10) 0
            move(0, 1, 91, 33, 10) 1       # right ahead of the blow
            move(0, 1, 111, 53, 10) 2      # right behind it
            gap(0, 1) 1                    # whoever strikes is late with both
            """);
        Script.rows("""
            person(33, 9) 0
            person(43, 6) 1
            move(0, 2, 1, 0, 10) 0
            move(1, 1, 1, 103, 0) 1
            gap(0, 1) -1                   # at beat -1 of their way they have not begun
            set(1, 1, 7) 6
            gap(0, 1) 5
            """);
        for (int late = 0; late <= 3; late++) {
            Script.rows("person(33, 0) 0", "person(83, " + late + ") 1", "'late s' 0", "move(0, 2, 1, 33, 10) 0", "gap(0, 1) 3",
                "move(1, 1, 1, 103, 0) 1", "gap(0, 1) " + (late == 0 ? 5 : 3));
            Script.rows("person(83, " + late + ") 0", "person(33, 0) 1", "'late s' 0", "move(1, 2, 1, 33, 0) 0", "gap(0, 0) 3",
                "move(0, 1, 1, 103, 10) 1", "gap(0, 0) " + (late == 0 ? 5 : 3));
        }
        Script.rows("""
            person(33, 0) 0
            person(113, 9) 1
            move(0, 2, 904, 0, 10) 0
            gap(0, 1) 6
            move(1, 1, 901, 103, 0) 1
            gap(0, 1) 5
            """);
    }

    private static void keeps() {
        Sentences.terms(2, "It KEEPS, if all GAPS are SPAN or more (to the AIM: half (cut) of SPAN).");
        int[] reaches = {0, 0, 2, 3, 1};
        for (int kind = 2; kind <= 4; kind++) {
            for (int span = 0; span <= 9; span++) {
                for (int far = 0; far <= 11; far++) {
                    int gap = far - reaches[kind];
                    Script.rows("person(0, 9) 0", "person(" + 10 * far + ", 9) 1", "move(0, " + kind + ", 11, 0, " + (10 + span) + ") 0",
                        "keeps(0) " + (gap >= span / 2 ? 1 : 0));
                    Script.rows("person(0, 9) 0", "person(110, 9) 1", "person(" + 10 * far + ", 9) 2",
                        "move(0, " + kind + ", 11, 0, " + (10 + span) + ") 0", "keeps(0) " + (gap >= span ? 1 : 0));
                }
            }
        }
    }

    private static void breaches() {
        Sentences.terms(2, """
            BREACH: a BLOW, not CUT, that doesn't KEEP; the first by numbers, and the least PERSON of it to whom the GAP is too
            little.""");
        Script.rows("""
            person(33, 9) 0
            person(113, 9) 1
            person(43, 9) 2
            person(34, 9) 3
            breach(0) NONE
            move(0, 1, 11, 33, 10) 0
            breach(0) NONE                 # no BLOW
            move(0, 2, 501, 33, 10) 1
            move(0, 3, 101, 33, 10) 2      # earlier, but of a higher number
            breach(0) 1
            breach(1) 2
            cut(1, true) 1
            breach(0) 2
            breach(1) 2
            cut(2, true) 1
            breach(0) NONE
            breach(1) NONE
            cut(1, false) 1
            move(2, 1, 491, 113, 10) 3
            breach(1) 3
            move(3, 1, 491, 113, 10) 4
            breach(0) NONE
            """);
        // Of eight people the first or the last is too near; of twenty moves the last one is the breach.
        for (int near = 0; near < 8; near++) {
            StringBuilder rows = new StringBuilder();
            int whose = near == 3 ? 4 : 3;
            int aim = near == 6 ? 5 : 6;
            for (int i = 0; i < 8; i++) {
                rows.append("person(").append(i == near ? 10 : i == whose ? 0 : 117).append(", 9) ").append(i).append('\n');
            }
            for (int i = 0; i < 20; i++) {
                rows.append("move(").append(whose).append(", ").append(i < 19 ? 0 : 2).append(", ").append(10 * i + 1).append(", 0, ")
                    .append(10 * aim).append(") ").append(i).append('\n');
            }
            Script.rows(rows.toString(), "breach(0) 19", "breach(1) " + near, "keeps(19) 0", "gap(19, " + near + ") -1", "show(1) 1",
                "log(0, 1) 19", "log(0, 2) " + near, "choose(19) 1", "understudy(0, 9, 0) 1", "may() 1");
        }
    }

    private static void signs() {
        Sentences.terms(2, """
            SIGNS, 20 at most: a PERSON is READY at a beat 0 .. 99. A BLOW is UNREADY, if its AIM has no SIGN 1 .. 3 beats ahead
            of its BEAT.""");
        for (int beat : new int[] {0, 1, 2, 3, 4, 5, 50, 89, 90}) {
            for (int sign = Math.max(0, beat - 6); sign <= beat + 3; sign++) {
                boolean ready = beat - sign >= 1 && beat - sign <= 3;
                Script.rows("person(0, 9) 0", "person(50, 9) 1", "person(100, 9) 2",
                    "move(0, 3, " + (10 * beat + 4) + ", 0, 10) 0", "unready(0) 1", "sign(1, " + sign + ") 1",
                    "unready(0) " + (ready ? 0 : 1), "unready(-1) " + (ready ? 0 : 1));
                Script.rows("person(0, 9) 0", "person(50, 9) 1", "person(100, 9) 2", "move(0, 3, " + (10 * beat + 4) + ", 0, 10) 0",
                    "sign(0, " + sign + ") 1", "sign(2, " + sign + ") 2", "unready(0) 1");
            }
        }
    }

    private static void seen() {
        Sentences.terms(2, """
            SEEN is a BLOW (at its BEAT, nobody late), if no other PERSON than its AIM is at a PLACE of the same x as whose it
            is, with a greater y (the house is there).""");
        for (int x = 4; x <= 6; x++) {
            for (int y = 0; y <= 7; y++) {
                int place = 10 * x + y;
                Script.rows("person(53, 9) 0", "person(0, 9) 1", "person(" + place + ", 9) 2", "move(0, 4, 101, 0, 10) 0",
                    "move(0, 2, 201, 0, 20) 1", "seen(0) " + (x == 5 && y > 3 ? 0 : 1), "seen(1) 1");
            }
        }
        // Of eight people the first or the last stands ahead.
        for (int ahead = 0; ahead < 8; ahead++) {
            StringBuilder rows = new StringBuilder();
            for (int i = 0; i < 8; i++) {
                rows.append("person(").append(i == ahead ? 57 : 50 + 10 * (i % 2)).append(", 9) ").append(i).append('\n');
            }
            int whose = ahead == 2 ? 4 : 2;
            int other = ahead == 6 ? 4 : 6;
            Script.rows(rows.toString(), "move(" + whose + ", 2, 11, 50, " + 10 * other + ") 0", "seen(0) 0",
                "move(" + whose + ", 2, 21, 50, " + 10 * ahead + ") 1", "seen(1) 1");
        }
        Script.rows("""
            person(53, 0) 0
            person(0, 0) 1
            person(55, 0) 2
            'late 3' 0
            move(0, 2, 104, 0, 10) 0
            seen(0) 0
            move(2, 1, 101, 65, 0) 1       # gone at its BEAT; nobody is late
            seen(0) 1
            move(2, 1, 111, 55, 0) 2       # and back behind it
            seen(0) 1
            cut(1, true) 1
            seen(0) 0
            move(2, 1, 91, 65, 0) 3
            seen(0) 1
            """);
    }

    private static void story() {
        Sentences.terms(2, "STORY: WORTH of all MOVES that are not CUT; of BLOWS of SEEN ones alone.");
        Script.rows("""
            person(53, 9) 0
            person(0, 9) 1
            person(55, 9) 2
            story() 0
            move(0, 0, 11, 53, 10) 0
            story() 0
            move(0, 1, 21, 53, 10) 1
            story() 1
            move(0, 5, 31, 53, 10) 2
            story() 5
            move(0, 2, 41, 53, 10) 3       # not seen
            story() 5
            move(0, 3, 51, 53, 20) 4       # seen: the AIM is ahead
            story() 12
            move(0, 4, 61, 53, 20) 5
            story() 14
            cut(4, true) 1
            story() 7
            cut(1, true) 1
            cut(2, true) 1
            story() 2
            cut(5, true) 1
            story() 0
            """);
    }

    private static final String FOUR = """
        person(33, 9) 0
        person(73, 9) 1
        person(37, 9) 2
        move(0, 2, 102, 33, 13) 0
        move(1, 1, 201, 73, 3) 1
        """;

    private static void gapCall() {
        Sentences.promise(11, "GAP of a BLOW to a PERSON. BAD; KIND: it is no BLOW; NO: whose it is.");
        Script.rows(FOUR, """
            gap(0, 1) 2
            gap(0, 2) 2
            gap(0, 0) NO
            gap(1, 0) KIND
            gap(1, 1) KIND                 # ahead of NO
            gap(1, 3) BAD                  # ahead of KIND
            gap(0, 3) BAD
            gap(0, -1) BAD
            gap(2, 0) BAD
            gap(-1, 0) BAD
            gap(MIN, 1) BAD
            gap(MAX, 1) BAD
            gap(0, MIN) BAD
            gap(0, MAX) BAD
            move(2, 0, 11, 0, 10) 2
            move(2, 5, 21, 37, 10) 3
            gap(2, 0) KIND
            gap(3, 0) KIND
            cut(0, true) 1
            gap(0, 1) 2
            """);
    }

    private static void keepsCall() {
        Sentences.promise(12, "Whether a BLOW KEEPS (CUT or not): 1, 0. BAD; KIND.");
        Script.rows(FOUR, """
            move(0, 3, 301, 33, 11) 2
            keeps(0) 0
            keeps(2) 1
            cut(0, true) 1
            cut(2, true) 1
            keeps(0) 0
            keeps(2) 1
            keeps(1) KIND
            keeps(3) BAD
            keeps(-1) BAD
            keeps(MIN) BAD
            keeps(MAX) BAD
            """);
    }

    private static void breachCall() {
        Sentences.promise(13, "BREACH: what 0 the BLOW, 1 the PERSON. BAD; NONE.");
        Script.rows(FOUR, """
            breach(0) 0
            breach(1) 2
            breach(-1) BAD
            breach(2) BAD
            breach(MIN) BAD
            breach(MAX) BAD
            cut(0, true) 1
            breach(0) NONE
            breach(1) NONE
            breach(2) BAD
            breach(-1) BAD
            """);
    }

    private static void signCall() {
        Sentences.promise(14, "One more SIGN: how many there are. BAD; FULL.");
        StringBuilder rows = new StringBuilder(FOUR);
        rows.append("sign(0, -1) BAD\nsign(0, 100) BAD\nsign(3, 0) BAD\nsign(-1, 0) BAD\n");
        rows.append("sign(0, MIN) BAD\nsign(0, MAX) BAD\nsign(MIN, 0) BAD\nsign(MAX, 0) BAD\ncount(4) 0\n");
        for (int i = 1; i <= 19; i++) {
            rows.append("sign(2, ").append(i == 1 ? 0 : i == 2 ? 99 : 50).append(") ").append(i).append('\n');
        }
        Script.rows(rows.toString(), """
            unready(0) 1
            sign(1, 9) 20                  # the last one counts as well
            unready(0) 0
            sign(1, 9) FULL
            sign(0, 0) FULL
            sign(0, 100) BAD               # ahead of FULL
            sign(3, 0) BAD
            count(4) 20
            """);
    }

    private static void unreadyCall() {
        Sentences.promise(15, "How many BLOWS (not CUT) are UNREADY (move -1); whether that one is (1, 0). BAD; KIND: it is no BLOW.");
        Script.rows("person(0, 9) 0", "person(50, 9) 1", "unready(-1) 0", "unready(0) BAD");
        Script.rows(FOUR, """
            unready(-1) 1
            unready(0) 1
            move(0, 4, 301, 33, 13) 2
            move(2, 3, 301, 33, 13) 3
            unready(-1) 3
            cut(2, true) 1
            unready(-1) 2
            unready(2) 1
            sign(1, 29) 1
            unready(-1) 1
            unready(2) 0
            unready(3) 0
            unready(1) KIND
            unready(4) BAD
            unready(-2) BAD
            unready(MIN) BAD
            unready(MAX) BAD
            """);
    }

    private static void seenCall() {
        Sentences.promise(16, "Whether a BLOW is SEEN: 1, 0. BAD; KIND.");
        Script.rows(FOUR, """
            seen(0) 0
            move(0, 2, 301, 33, 23) 2
            seen(2) 1
            cut(0, true) 1
            seen(0) 0
            cut(2, true) 1
            seen(2) 1
            seen(1) KIND
            seen(3) BAD
            seen(-1) BAD
            seen(MIN) BAD
            seen(MAX) BAD
            """);
    }

    private static void storyCall() {
        Sentences.promise(17, "STORY.");
        Script.rows("story() 0", "person(0, 9) 0", "story() 0");
        Script.rows(FOUR, "story() 1", "cut(1, true) 1", "story() 0", "move(2, 1, 11, 47, 0) 2", "story() 6");
    }
}
