/** Edges of told moves, understudies and shifts: the first of 'Terms' 4, and the promises 25 to 29. */
final class CutEdges {
    private CutEdges() {
    }

    static void all() {
        understudies();
        sixTold();
        shifts();
        shiftRules();
        leastSum();
        firstOfSeveral();
        chooseCall();
        clearCall();
        understudyCall();
        shiftsCall();
        shiftCall();
    }

    /**
     * 1 comes near at beat 11: so 0 must not be late by 1 with the blow at beat 10, by 2 with the feint at 9, by 3 with the
     * thrust at 8. By this law LATE is 9 less SKILL, 3 at most.
     */
    private static final String COMES = """
        person(33, 9) 0
        person(113, 9) 1
        'late 9-s' 0
        move(0, 2, 101, 33, 12) 0
        move(0, 4, 91, 33, 12) 1
        move(0, 3, 81, 33, 12) 2
        move(1, 1, 111, 43, 0) 3
        """;

    private static void understudies() {
        Sentences.terms(4, """
            UNDERSTUDY with a SKILL for a PERSON: of up to 6 told BLOWS those to be CUT besides, so that with that SKILL there is
            no BREACH: the fewest; of several those with the least WORTH together; of several the least as bits (bit i: the i-th
            of all told).""");
        Script.rows(COMES, """
            understudy(0, 9, 0) 0          # nothing told, nothing to be cut
            understudy(0, 9, 1) 0
            understudy(0, 8, 0) NONE
            choose(3) 1                    # a step: left out, but it has a bit
            choose(2) 2
            choose(1) 3
            understudy(0, 8, 0) NONE
            choose(0) 4
            understudy(0, 9, 0) 0
            understudy(0, 8, 0) 8
            understudy(0, 8, 1) 5
            understudy(0, 7, 0) 12
            understudy(0, 7, 1) 7
            understudy(0, 6, 0) 14
            understudy(0, 6, 1) 14
            understudy(0, 0, 0) 14
            cut(0, true) 1
            understudy(0, 8, 0) 0          # those that are cut anyway are no cuts besides
            understudy(0, 7, 0) 4
            understudy(0, 7, 1) 2
            understudy(0, 6, 0) 6
            understudy(0, 6, 1) 9
            cut(0, false) 1
            cut(3, true) 1
            understudy(0, 0, 0) 0          # nobody comes
            """);
        // A breach that has nothing to do with the understudy must be cut as well, or there are no such cuts.
        Script.rows("""
            person(33, 9) 0
            person(43, 9) 1
            person(113, 9) 2
            move(1, 2, 101, 43, 0) 0
            understudy(2, 9, 0) NONE
            choose(0) 1
            understudy(2, 9, 0) 1
            understudy(2, 9, 1) 5
            """);
        // With the skill of now there is a breach, with that of the understudy there is none.
        Script.rows(COMES, """
            set(0, 1, 6) 9
            breach(0) 0
            understudy(0, 9, 0) 0
            understudy(0, 9, 1) 0
            understudy(1, 9, 0) NONE
            told(0, 1) 6
            """);
    }

    private static void sixTold() {
        Sentences.terms(4, "of up to 6 told BLOWS");
        // Seven blows at one who stands too near: all must be cut, and six can be told.
        StringBuilder rows = new StringBuilder("person(33, 9) 0\nperson(43, 9) 1\n");
        for (int i = 0; i < 7; i++) {
            rows.append("move(0, ").append(2 + i % 3).append(", ").append(10 * i + 1).append(", 33, 19) ").append(i).append('\n');
        }
        for (int i = 0; i < 6; i++) {
            rows.append("choose(").append(5 - i).append(") ").append(i + 1).append('\n');
        }
        Script.rows(rows.toString(), """
            understudy(0, 9, 0) NONE
            cut(6, true) 1
            understudy(0, 9, 0) 63
            understudy(0, 9, 1) 28
            cut(5, true) 1
            understudy(0, 9, 0) 62         # told first: bit 0
            understudy(0, 9, 1) 26
            cut(0, true) 1
            understudy(0, 9, 0) 30         # told last: bit 5
            understudy(0, 9, 1) 21
            """);
    }

    /** 1 walks from x 0 to x 11 past 0 at x 5 in four beats, near at the second one alone. */
    private static String passes(int stepBeat, int blowTime) {
        return "person(53, 9) 0\nperson(3, 9) 1\nmove(0, 2, " + blowTime + ", 53, 12) 0\nmove(1, 1, " + (10 * stepBeat + 4)
            + ", 113, 0) 1\n";
    }

    /** 1 stands near to 0 from beat 10 on for so many beats, and 0 strikes at beat 10. */
    private static String stays(int beats) {
        return "person(33, 9) 0\nperson(113, 9) 1\nmove(0, 2, 101, 33, 12) 0\nmove(1, 1, 101, 43, 0) 1\nmove(1, 1, "
            + (10 * (10 + beats) + 1) + ", 113, 0) 2\n";
    }

    private static void shifts() {
        Sentences.terms(4, "SHIFTS of up to 3 told MOVES: each by 0 .. 5 beats later, so that there is no BREACH");
        for (int beats = 1; beats <= 7; beats++) {
            String due = beats <= 5 ? Integer.toString(beats) : "NONE";
            Script.rows(stays(beats), "choose(0) 1", "shifts(-1) " + due, "shifts(0) " + due, "of(0, 2) 10");
        }
        // By 6 nothing goes, whichever of three it is, and whatever sum the others leave.
        String others = "move(0, 0, 501, 33, 10) 3\nmove(1, 0, 501, 113, 0) 4\n";
        Script.rows(stays(6), others, "choose(0) 1", "choose(3) 2", "choose(4) 3", "shifts(-1) NONE");
        Script.rows(stays(6), others, "choose(3) 1", "choose(0) 2", "choose(4) 3", "shifts(-1) NONE");
        Script.rows(stays(6), others, "choose(3) 1", "choose(4) 2", "choose(0) 3", "shifts(-1) NONE");
        Script.rows(stays(6), others, "choose(3) 1", "choose(0) 2", "shifts(-1) NONE");
        Script.rows(stays(5), others, "choose(0) 1", "choose(3) 2", "choose(4) 3", "shifts(-1) 5", "shifts(0) 5", "shifts(1) 0");
        Script.rows(stays(5), others, "choose(3) 1", "choose(0) 2", "choose(4) 3", "shifts(-1) 5", "shifts(1) 5", "shifts(0) 0");
        Script.rows(stays(5), others, "choose(3) 1", "choose(4) 2", "choose(0) 3", "shifts(-1) 5", "shifts(2) 5", "shifts(1) 0");
        Script.rows(stays(3), "choose(0) 1", "cut(0, true) 1", "shifts(-1) 0", "shifts(0) 0");
        Script.rows(stays(3), "shifts(-1) NONE", "cut(1, true) 1", "shifts(-1) 0");
        // Three must wait for beat 15, the fourth told one would have to as well.
        String four = """
            person(30, 9) 0
            person(32, 9) 1
            person(50, 9) 2
            person(117, 9) 3
            person(52, 9) 4
            move(0, 2, 101, 0, 30) 0
            move(1, 2, 101, 0, 30) 1
            move(2, 2, 101, 0, 30) 2
            move(3, 1, 101, 41, 0) 3
            move(3, 1, 151, 117, 0) 4
            choose(2) 1
            choose(0) 2
            shifts(-1) NONE
            choose(1) 3
            shifts(-1) 15
            shifts(0) 5
            shifts(1) 5
            shifts(2) 5
            """;
        Script.rows(four, "move(4, 2, 101, 0, 30) 5", "shifts(-1) NONE", "choose(5) 4", "shifts(-1) NONE", "shifts(2) NONE",
            "cut(5, true) 1", "shifts(-1) 15", "shift() 15", "of(5, 2) 10", "of(2, 2) 15");
    }

    private static void shiftRules() {
        Sentences.terms(4, "(MOVES of one PERSON, CUT ones, too, having no beat in common, the BEAT of each 90 at most)");
        // The step must go by 1; a move of the same person stands right behind it.
        Script.rows(passes(10, 111), "choose(1) 1", "shifts(-1) 1", "move(1, 0, 151, 3, 0) 2", "shifts(-1) 1",
            "move(1, 0, 141, 3, 0) 3", "shifts(-1) NONE", "cut(3, true) 1", "shifts(-1) NONE", "cut(2, true) 1", "shifts(-1) NONE");
        // Past a cut one, by 5 over its beat.
        Script.rows(passes(10, 111), "choose(1) 1", "move(1, 0, 141, 3, 0) 2", "cut(2, true) 1", "shifts(-1) 5", "shift() 5",
            "of(1, 2) 15", "of(2, 2) 14");
        // Two told ones of one person must not meet each other; both go, or one leaps over the other.
        Script.rows(passes(10, 111), "move(1, 0, 144, 3, 0) 2", "choose(1) 1", "shifts(-1) NONE", "choose(2) 2", "shifts(-1) 2",
            "shifts(0) 1", "shifts(1) 1", "shift() 2", "of(1, 2) 11", "of(2, 2) 15");
        // Another person's moves are in nobody's way.
        Script.rows(passes(10, 111), "choose(1) 1", "person(0, 9) 2", "move(2, 0, 144, 0, 0) 2", "shifts(-1) 1");
        // Beat 90 is still taken, beat 91 is not.
        Script.rows(passes(88, 891), "choose(0) 1", "shifts(-1) 1", "shift() 1", "of(0, 2) 90");
        Script.rows(passes(89, 901), "choose(0) 1", "shifts(-1) NONE", "choose(1) 2", "shifts(-1) 1", "shifts(1) 1", "shift() 1",
            "of(1, 2) 90");
        Script.rows(passes(90, 902), "choose(0) 1", "choose(1) 2", "shifts(-1) NONE", "shifts(0) NONE", "shifts(1) NONE",
            "shift() NONE", "of(0, 2) 90", "of(1, 2) 90");
    }

    private static void leastSum() {
        Sentences.terms(4, "the least sum");
        // The blow would have to go by 4; the step that comes, by 1.
        Script.rows("""
            person(33, 9) 0
            person(73, 9) 1
            move(1, 1, 101, 43, 0) 0
            move(1, 1, 131, 103, 0) 1
            move(0, 2, 92, 0, 12) 2
            breach(0) 2
            choose(2) 1
            shifts(-1) 4
            choose(0) 2
            shifts(-1) 1
            shifts(0) 0
            shifts(1) 1
            choose(1) 3
            shifts(-1) 1
            shifts(2) 0
            """);
    }

    private static void firstOfSeveral() {
        Sentences.terms(4, "of several the first (by the order told, the least first).");
        Script.rows(passes(10, 111), "choose(0) 1", "choose(1) 2", "shifts(-1) 1", "shifts(0) 0", "shifts(1) 1", "shift() 1",
            "of(0, 2) 11", "of(1, 2) 11");
        Script.rows(passes(10, 111), "choose(1) 1", "choose(0) 2", "shifts(-1) 1", "shifts(0) 0", "shifts(1) 1", "shift() 1",
            "of(0, 2) 12", "of(1, 2) 10");
        // Of (1, 1, 1) and (0, 2, 1), which leaps over a move, the latter has the least first.
        Script.rows(passes(10, 111), """
            move(1, 0, 141, 3, 0) 2
            move(1, 0, 151, 3, 0) 3
            choose(3) 1
            choose(2) 2
            choose(1) 3
            shifts(-1) 3
            shifts(0) 0
            shifts(1) 2
            shifts(2) 1
            clear() 3
            choose(2) 1
            choose(3) 2
            choose(1) 3
            shifts(-1) 3
            shifts(0) 1
            shifts(1) 1
            shifts(2) 1
            """);
    }

    private static final String EIGHT = """
        person(0, 9) 0
        person(110, 9) 1
        move(0, 0, 11, 0, 10) 0
        move(0, 1, 21, 0, 10) 1
        move(0, 2, 31, 0, 10) 2
        move(0, 3, 41, 0, 10) 3
        move(0, 4, 51, 0, 10) 4
        move(0, 5, 61, 0, 10) 5
        move(0, 2, 71, 0, 10) 6
        move(0, 3, 81, 0, 10) 7
        """;

    private static void chooseCall() {
        Sentences.promise(25, "A MOVE is told for cuts and SHIFTS: how many are. BAD; NO: it is; FULL: 6 are.");
        Script.rows("choose(0) BAD", "person(0, 9) 0", "person(110, 9) 1", "choose(0) BAD", "choose(-1) BAD");
        Script.rows(EIGHT, """
            choose(8) BAD
            choose(-1) BAD
            choose(MIN) BAD
            choose(MAX) BAD
            choose(7) 1
            choose(7) NO
            choose(0) 2
            choose(7) NO
            choose(0) NO
            cut(1, true) 1
            choose(1) 3                    # a CUT one
            choose(2) 4
            choose(3) 5
            choose(4) 6
            choose(5) FULL
            choose(6) FULL
            choose(4) NO                   # ahead of FULL
            choose(7) NO
            choose(8) BAD                  # ahead of FULL
            choose(-1) BAD
            count(6) 6
            """);
    }

    private static void clearCall() {
        Sentences.promise(26, "No MOVE is told any more: how many were.");
        Script.rows(EIGHT, """
            clear() 0
            choose(3) 1
            clear() 1
            clear() 0
            count(6) 0
            shifts(0) BAD
            choose(3) 1                    # told anew
            choose(0) 2
            choose(1) 3
            choose(2) 4
            choose(4) 5
            choose(5) 6
            choose(6) FULL
            clear() 6
            choose(6) 1
            """);
    }

    private static void understudyCall() {
        Sentences.promise(27, """
            UNDERSTUDY with a SKILL for a PERSON: what 0 the cuts as bits, 1 their WORTH (of those that are BLOWS and not CUT
            alone; others that are told are left out of all sets).""");
        Script.rows("""
            person(33, 9) 0
            person(43, 9) 1
            move(0, 2, 101, 33, 10) 0      # each of them too near
            move(0, 3, 201, 33, 10) 1
            move(0, 4, 301, 33, 14) 2
            move(0, 5, 401, 33, 10) 3
            move(0, 1, 501, 33, 10) 4
            choose(4) 1
            choose(0) 2
            choose(3) 3
            choose(1) 4
            choose(2) 5
            understudy(1, 9, 0) 26
            understudy(1, 9, 1) 14
            cut(1, true) 1                 # told, but cut already
            understudy(1, 9, 0) 18
            understudy(1, 9, 1) 7
            cut(0, true) 1
            cut(2, true) 1
            understudy(1, 9, 0) 0
            understudy(1, 9, 1) 0
            count(2) 3
            """);
        Sentences.promise(27, "BAD; NONE: there are no such cuts.");
        Script.rows(COMES, """
            understudy(-1, 9, 0) BAD
            understudy(2, 9, 0) BAD
            understudy(MIN, 9, 0) BAD
            understudy(MAX, 9, 0) BAD
            understudy(0, -1, 0) BAD
            understudy(0, 10, 0) BAD
            understudy(0, MIN, 0) BAD
            understudy(0, MAX, 0) BAD
            understudy(0, 9, -1) BAD
            understudy(0, 9, 2) BAD
            understudy(0, 9, MIN) BAD
            understudy(0, 9, MAX) BAD
            understudy(0, 0, 0) NONE
            understudy(0, 0, 1) NONE
            understudy(0, 10, 1) BAD
            choose(0) 1
            understudy(0, 0, 0) NONE       # two others remain
            understudy(0, 0, 1) NONE
            understudy(0, 8, 0) 1
            """);
    }

    private static void shiftsCall() {
        Sentences.promise(28, "SHIFTS of the first 3 told (or fewer): what -1 the sum, 0 .. 2 by how much the i-th goes.");
        Script.rows(passes(10, 111), """
            move(0, 0, 11, 0, 10) 2
            move(0, 0, 21, 0, 10) 3
            move(0, 0, 31, 0, 10) 4
            choose(2) 1
            choose(3) 2
            choose(4) 3
            choose(1) 4
            shifts(-1) NONE                # the fourth does not go
            clear() 4
            choose(2) 1
            choose(3) 2
            choose(1) 3
            choose(0) 4
            shifts(-1) 1
            shifts(0) 0
            shifts(1) 0
            shifts(2) 1
            of(1, 2) 10
            """);
        Sentences.promise(28, "BAD: what (of told ones alone); NONE: there are none.");
        Script.rows(passes(10, 111), """
            shifts(-2) BAD
            shifts(-1) NONE
            shifts(0) BAD
            shifts(1) BAD
            choose(1) 1
            shifts(0) 1
            shifts(1) BAD
            choose(0) 2
            shifts(1) 1
            shifts(2) BAD
            move(0, 0, 11, 0, 10) 2
            choose(2) 3
            shifts(2) 0
            shifts(3) BAD
            move(0, 0, 21, 0, 10) 3
            choose(3) 4
            shifts(3) BAD                  # a fourth is told, but does not go
            shifts(-2) BAD
            shifts(MIN) BAD
            shifts(MAX) BAD
            clear() 4
            choose(2) 1
            shifts(-1) NONE
            shifts(0) NONE
            shifts(1) BAD                  # ahead of NONE
            """);
    }

    private static void shiftCall() {
        Sentences.promise(29, "SHIFTS are done: the sum. NONE.");
        Script.rows(passes(10, 111), """
            shift() NONE                   # nothing told
            of(0, 2) 11
            of(1, 2) 10
            choose(1) 1
            shift() 1
            of(0, 2) 11
            of(1, 2) 11
            breach(0) NONE
            count(6) 1
            shift() 0                      # nothing to be shifted any more
            of(1, 2) 11
            clear() 1
            shift() 0
            """);
        Script.rows(stays(6), "choose(0) 1", "shift() NONE", "of(0, 2) 10", "count(6) 1", "breach(0) 0");
        Script.rows(stays(5), "choose(0) 1", "shift() 5", "of(0, 2) 15", "of(1, 2) 10", "of(2, 2) 15", "breach(0) NONE");
    }
}
