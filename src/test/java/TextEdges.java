/** Edges of the tape, of texts and their faults, and of what the law says: 'Terms' 3, and the promises 18 to 24. */
final class TextEdges {
    private TextEdges() {
    }

    static void all() {
        textsAndTape();
        grammar();
        names();
        words();
        blanks();
        faults();
        depths();
        tooSoon();
        numbers();
        lastTold();
        barred();
        hours();
        practised();
        mayBe();
        feedCall();
        trimCall();
        textCall();
        textToldCall();
        hoursCall();
        practiseCall();
        mayCall();
    }

    private static final String TWO = """
        person(0, 5) 0
        person(110, 7) 1
        """;

    /** Each at least three from each other. */
    private static final String EIGHT = """
        person(0, 9) 0
        person(30, 9) 1
        person(60, 9) 2
        person(90, 9) 3
        person(3, 9) 4
        person(33, 9) 5
        person(63, 9) 6
        person(93, 9) 7
        """;

    private static void textsAndTape() {
        Sentences.terms(3, """
            TEXTS, 14 at most, numbered from 0, from THE TAPE (96 bytes at most; an act that reads it uses it up, whatever it
            answers)""");
        StringBuilder rows = new StringBuilder();
        for (int i = 0; i < 14; i++) {
            rows.append(i % 3 == 0 ? "'late 1' " : i % 3 == 1 ? "'bar 1+k' " : "'hours n+s+1' ").append(i).append('\n');
            rows.append("count(12) 0\n");
        }
        Script.rows(rows.toString(), """
            'late 1' FULL
            count(12) 0
            'late' fault 4                 # ahead of FULL
            count(12) 0
            text() fault 0
            count(5) 14
            textTold(13, 0) 1
            textTold(12, 0) 0
            """);
        Script.rows("tape 'late s' 6", "text() 0", "count(12) 0", "tape 'late x' 6", "text() fault 5", "count(12) 0", "text() fault 0");
        // Of 96 bytes all are read, and the last one counts.
        StringBuilder longest = new StringBuilder("hours 1");
        while (longest.length() < 95) {
            longest.append("+1");
        }
        Script.rows(TWO, "'" + longest + " ' 0", "textTold(0, 1) 45", "hours(0, 1, 0) 45", "'" + longest + "1' 1", "hours(0, 1, 0) 55",
            "'" + longest + "+' fault 96", "'" + longest + "x' fault 95");
    }

    /** The value of an expression, 0 .. 99, with s 5 and n 0. */
    private static void value(String e, int due) {
        Script.rows(TWO, "'hours " + e + "' 0", "hours(0, 1, 0) " + due);
    }

    private static void fault(String bytes, int place) {
        Script.rows(TWO, "'" + bytes + "' fault " + place, "count(5) 0");
    }

    private static void taken(String bytes, int key, int leaves) {
        Script.rows(TWO, "'" + bytes + "' 0", "textTold(0, 0) " + key, "textTold(0, 1) " + leaves);
    }

    private static void grammar() {
        Sentences.terms(3, """
            late E | bar E | hours E. E, the loosest first: OR: AND { | AND }; AND: TEST { & TEST }; TEST: SUM [ (< | = | >) SUM ];
            SUM: TERM { (+ | -) TERM }; TERM: PIECE { (* | /) PIECE }; PIECE: NUMBER (1 to 4 digits) | NAME | ! PIECE | ( E ).""");
        taken("late 1", 0, 1);
        taken("bar 1", 1, 1);
        taken("hours 1", 2, 1);
        // The looser one is worked out last.
        value("1|0&0", 1);
        value("(1|0)&0", 0);
        value("0&0|1", 1);
        value("0&(0|1)", 0);
        value("0&1=0", 0);
        value("(0&1)=0", 1);
        value("2&3=3", 1);
        value("2+3=5", 1);
        value("2+(3=5)", 2);
        value("7-2<6", 1);
        value("7-(2<6)", 6);
        value("9>4+6", 0);
        value("(9>4)+6", 7);
        value("2+3*4", 14);
        value("(2+3)*4", 20);
        value("20-6/2", 17);
        value("(20-6)/2", 7);
        value("!0*7", 7);
        value("!(0*7)", 1);
        value("!1+7", 7);
        value("!(1+7)", 0);
        // Of alike ones the left one first.
        value("20-5-3", 12);
        value("20-5+3", 18);
        value("60/6/2", 5);
        value("60/6*2", 20);
        value("7*3/2", 10);
        value("7/2*3", 9);
        value("0|0|4", 1);
        value("1&1&0", 0);
        // One test at most, and each of the three.
        fault("late 1<2<3", 8);
        fault("late 1=2=3", 8);
        fault("late 1>2>3", 8);
        fault("late 1<2=3", 8);
        fault("late (1<2=3)", 9);
        taken("late 1<2&2<3|3>4", 0, 6);
        taken("late (1<2)=(3>2)", 0, 4);
        // Each piece, and nothing in its stead.
        value("7", 7);
        value("07", 7);
        value("0007", 7);
        value("(7)", 7);
        value("!7", 0);
        value("!!7", 1);
        value("!(7)", 0);
        value("(!7)", 0);
        value("s", 5);
        fault("late ()", 6);
        fault("late +1", 5);
        fault("late -1", 5);
        fault("late 1+-1", 7);
        fault("late 1!", 6);
        fault("late 1(2)", 6);
        fault("late (1)(2)", 8);
        fault("late (1)2", 8);
        fault("late )", 5);
        fault("late 1)", 6);
        fault("late !)", 6);
        for (String join : new String[] {"|", "&", "<", "=", ">", "+", "-", "*", "/"}) {
            taken("late 1" + join + "2", 0, 2);
            fault("late 1" + join, 7);
            fault("late 1" + join + join + "2", 7);
            fault("late " + join + "1", 5);
            fault("late (" + join + "1)", 6);
            fault("late !" + join + "1", 6);
            fault("late (1" + join + ")", 8);
        }
    }

    private static void names() {
        Sentences.terms(3, """
            NAMES, each one letter: of late s SKILL, t TIRED, w WET; of bar k KIND, s, b BEAT, a SKILL of the AIM; of hours n how
            many BLOWS (not CUT) are between two PEOPLE (of one at the other, both ways), s the lesser SKILL of both.""");
        String[] keys = {"late", "bar", "hours"};
        String[] letters = {"stw", "ksba", "ns"};
        for (int key = 0; key < 3; key++) {
            for (char name = 'a'; name <= 'z'; name++) {
                if (letters[key].indexOf(name) >= 0) {
                    taken(keys[key] + " " + name, key, 1);
                } else {
                    fault(keys[key] + " " + name, keys[key].length() + 1);
                }
            }
            char first = letters[key].charAt(0);
            fault(keys[key] + " " + first + first, keys[key].length() + 1);
            fault(keys[key] + " " + Character.toUpperCase(first), keys[key].length() + 1);
        }
        Script.rows("""
            person(0, 2) 0
            person(110, 1) 1
            set(1, 2, 99) 0
            'late s' 0
            told(0, 4) 2
            told(1, 4) 1
            'late t/33' 1
            told(0, 4) 0
            told(1, 4) 3
            'late w*2' 2
            told(0, 4) 0
            wet(1) 0
            told(0, 4) 2
            """);
        Script.rows("""
            person(0, 5) 0
            person(110, 8) 1
            move(0, 4, 902, 0, 13) 0
            'bar k=4' 0
            of(0, 12) 1
            'bar s=5' 1
            of(0, 12) 1
            'bar b=90' 2
            of(0, 12) 1
            'bar a=8' 3
            of(0, 12) 1
            'bar k=4&s=5&b=90&a=8' 4
            of(0, 12) 1
            'bar k=3|s=8|b=9|a=5' 5
            of(0, 12) 0
            """);
        Script.rows("""
            person(0, 5) 0
            person(110, 8) 1
            person(117, 2) 2
            'hours n*10+s' 0
            hours(0, 1, 0) 5
            move(0, 2, 11, 0, 10) 0
            hours(0, 1, 0) 15
            hours(1, 0, 0) 15
            move(1, 3, 11, 110, 0) 1
            hours(0, 1, 0) 25
            hours(1, 0, 0) 25
            move(0, 4, 21, 0, 10) 2
            hours(0, 1, 0) 35
            move(0, 1, 31, 0, 10) 3        # no BLOW
            move(0, 5, 41, 0, 10) 4
            move(0, 0, 51, 0, 10) 5
            hours(0, 1, 0) 35
            move(0, 2, 61, 0, 20) 6        # of others
            hours(0, 1, 0) 35
            hours(0, 2, 0) 12
            hours(2, 1, 0) 2
            cut(2, true) 1
            hours(0, 1, 0) 25
            set(1, 1, 0) 8
            hours(0, 1, 0) 20
            """);
    }

    private static void words() {
        Sentences.terms(3, "A word is a row of letters a .. z, or of digits, as long as it goes; any other byte is a sign by itself.");
        for (int one = 0; one < 256; one++) {
            String sign = String.format("\\x%02x", one);
            boolean letter = one >= 'a' && one <= 'z';
            boolean digit = one >= '0' && one <= '9';
            boolean join = "|&<=>+-*/".indexOf(one) >= 0;
            // Ahead of all, behind the key, between two pieces, and at the end.
            if (one == ' ') {
                taken(sign + "late s", 0, 1);
                taken("late" + sign + "s", 0, 1);
                fault("late 1" + sign + "2", 7);
                taken("late 1" + sign, 0, 1);
                continue;
            }
            fault(sign + "late s", 0);
            if (one == '!') {
                taken("late" + sign + "s", 0, 1);
            } else {
                fault("late" + sign + "s", letter ? 0 : one == '(' ? 6 : 4);
            }
            if (digit || join) {
                taken("late 1" + sign + "2", 0, join ? 2 : 1);
            } else {
                fault("late 1" + sign + "2", 6);
            }
            if (digit) {
                taken("late 1" + sign, 0, 1);
            } else {
                fault("late 1" + sign, join ? 7 : 6);
            }
            if (letter) {
                fault("late s" + sign, 5);
            }
        }
    }

    private static void blanks() {
        Sentences.terms(3, """
            Between words and signs, and at the ends, there may be blanks (byte 32); a word right behind another one needs
            one.""");
        taken("    late    (   s   +   !   12   )    ", 0, 2);
        taken("late(s)", 0, 1);
        taken("late!s", 0, 1);
        taken("hours(n)+s", 2, 2);
        taken("bar k=3&s<5", 1, 4);
        fault("late7", 4);
        fault("late 7s", 6);
        fault("late s7", 6);
        fault("late 7 s", 7);
        fault("late s 7", 7);
        fault("late s s", 7);
        fault("late 1 2", 7);
        fault("late s+7t", 8);
        fault("la te s", 0);
        fault("late 1+1 1", 9);
        fault("late\\x09s", 4);
        fault("late s\\x0a", 6);
        fault("late s\\x00", 6);
        fault("late s\\xa0", 6);
    }

    private static void faults() {
        Sentences.terms(3, """
            FAULT: the first byte of the first word or sign with which no TEXT goes on (a word that needs a blank ahead of it, a
            NUMBER of more than 4 digits""");
        for (String key : new String[] {"lat", "latex", "lates", "ba", "bars", "hour", "hourss", "l", "la", "tale", "bat", "houra"}) {
            fault(key + " 1", 0);
            fault("  " + key + " 1", 2);
        }
        for (String key : new String[] {"late", "bar", "hours"}) {
            for (int i = 0; i < key.length(); i++) {
                fault(key.substring(0, i) + "z" + key.substring(i + 1) + " 1", 0);
                fault(key.substring(0, i) + key.substring(i + 1) + " 1", 0);
            }
        }
        fault("Late 1", 0);
        fault("7", 0);
        fault("(late 1)", 0);
        fault("!late 1", 0);
        fault("late late", 5);
        fault("late bar", 5);
        fault("late  x + 1", 6);
        fault("late 1 + xyz", 9);
        fault("late 1 + 12345 + x", 9);
        taken("late 9999", 0, 1);
        taken("late 0000", 0, 1);
        fault("late 10000", 5);
        fault("late 00000", 5);
        fault("late 123456789012", 5);
        fault("late 1*99999", 7);
        fault("late1", 4);
        fault("bar1", 3);
        fault("hours1", 5);
        fault("late12345", 4);
        fault("late 1s", 6);
        fault("late 1 s)", 7);
        fault("late ?? ??", 5);
    }

    private static String many(String part, int times) {
        return part.repeat(times);
    }

    private static void depths() {
        Sentences.terms(3, """
            the ninth ( that would be open within others (the outermost counted), the ninth ! likewise (open till its PIECE
            ends), each by itself)""");
        taken("late " + many("(", 8) + "s" + many(")", 8), 0, 1);
        fault("late " + many("(", 9) + "s" + many(")", 9), 13);
        fault("late " + many("(", 10) + "s", 13);
        fault("late " + many("( ", 9) + "s", 21);
        taken("late " + many("(", 8) + "s" + many(")", 8) + "+" + many("(", 8) + "t" + many(")", 8), 0, 2);
        fault("late (s)+" + many("(", 9) + "s", 17);
        taken("late " + many("(", 7) + "(s)+(s)" + many(")", 7), 0, 2);
        fault("late " + many("(", 7) + "(s)+((s))" + many(")", 7), 17);
        taken("late " + many("!", 8) + "s", 0, 1);
        fault("late " + many("!", 9) + "s", 13);
        fault("late " + many("! ", 9) + "s", 21);
        taken("late " + many("!", 8) + "s+" + many("!", 8) + "s", 0, 2);
        taken("late " + many("!s+", 20) + "!s", 0, 21);
        taken("late " + many("!", 8) + "(s)+!s", 0, 2);
        // A ! stays open all through the ( ) that is its PIECE.
        taken("late " + many("!", 7) + "(!s+!s)", 0, 2);
        fault("late " + many("!", 8) + "(s+!s)", 16);
        fault("late !!!!(!!!!(!s))", 15);
        taken("late !!!!(!!!!(s)+!!!!s)", 0, 2);
        fault("late !!!!(!!!!(s)+!!!!!s)", 22);
        // Each is counted by itself.
        taken("late " + many("!(", 8) + "s" + many(")", 8), 0, 1);
        taken("late " + many("(!", 8) + "s" + many(")", 8), 0, 1);
        fault("late " + many("!(", 8) + "!s", 21);
        fault("late " + many("!(", 8) + "(s", 21);
        fault("late " + many("(!", 8) + "!s", 21);
        fault("late " + many("(!", 8) + "(s", 21);
        value(many("(", 8) + "7" + many(")", 8), 7);
        value(many("!", 8) + "7", 1);
        value(many("!", 7) + "7", 0);
    }

    private static void tooSoon() {
        Sentences.terms(3, "the end (the place behind the last byte), if it comes too soon.");
        Script.rows("text() fault 0");
        fault(" ", 1);
        fault(many(" ", 96), 96);
        fault("late", 4);
        fault("late   ", 7);
        fault("hours", 5);
        fault("late (", 6);
        fault("late (s", 7);
        fault("late (s ", 8);
        fault("late ((s)", 9);
        fault("late !", 6);
        fault("late s+", 7);
        fault("late s+ ", 8);
        fault("late s<", 7);
        fault("late " + many("(", 8), 13);
        fault("late " + many("(", 8) + "s" + many(")", 7), 21);
        fault("late s" + many("+s", 44) + "+ ", 96);
    }

    private static void numbers() {
        Sentences.terms(3, """
            Ints wrap; / is 0 by 0; tests, & | ! give 1 or 0 (what is not 0 is true; both sides are worked out).""");
        // 9999 * 9999 is 99980001; 43 times that wraps to 4172747, 22 times that below 0.
        value("9999*9999*43/1000/100", 41);
        value("(9999*9999*43=9999*417+9999*0+3164)*7", 7);
        value("9999*9999*21>0", 1);
        value("9999*9999*22<0", 1);
        value("9999*9999*21+9999*9999<0", 1);
        value("0-9999*9999*21-9999*9999>0", 1);
        value("2048*1024*1024<0", 1);
        value("2048*1024*1024-1>0", 1);
        value("2048*1024*1024+2048*1024*1024", 0);
        value("(2048*1024*1024/(0-1)<0)*7", 7);
        value("4096*1024*1024+9", 9);
        value("9/0", 0);
        value("9/0+3", 3);
        value("3+9/(s-5)", 3);
        value("(0-9)/0+3", 3);
        value("0/0+3", 3);
        value("7/0*0+4", 4);
        value("6/(4/5)+2", 2);
        value("(3<4)*9", 9);
        value("(4<4)*9+1", 1);
        value("(5<4)*9+1", 1);
        value("(4=4)*9", 9);
        value("(4=3)*9+1", 1);
        value("(3=4)*9+1", 1);
        value("(5>4)*9", 9);
        value("(4>4)*9+1", 1);
        value("(3>4)*9+1", 1);
        value("(0-1<0)*9", 9);
        value("(0-1>0)*9+1", 1);
        value("7&7", 1);
        value("1&2", 1);
        value("(0-1)&(0-2)", 1);
        value("7&0", 0);
        value("0&7", 0);
        value("0&0", 0);
        value("7|7", 1);
        value("1|2", 1);
        value("(0-1)|0", 1);
        value("0|(0-1)", 1);
        value("0|0", 0);
        value("!0", 1);
        value("!1", 0);
        value("!2", 0);
        value("!(0-1)", 0);
        value("(0&9/0)+6", 6);
        value("(1|9/0)+6", 7);
    }

    private static void lastTold() {
        Sentences.terms(3, "Of a KEY that TEXT counts that was told last.");
        Script.rows("""
            person(0, 9) 0
            person(110, 9) 1
            move(0, 2, 11, 0, 10) 0
            'late 1' 0
            told(0, 4) 1
            'late 2' 1
            told(0, 4) 2
            'hours 5' 2
            told(0, 4) 2                   # another KEY
            'bar 0' 3
            told(0, 4) 2
            'late 3)' fault 6
            told(0, 4) 2                   # no TEXT
            'hours 6' 4
            hours(0, 1, 0) 6
            'bar 1' 5
            of(0, 12) 1
            'bar 0' 6
            of(0, 12) 0
            'late 0' 7
            told(0, 4) 0
            hours(0, 1, 0) 6
            """);
    }

    private static void barred() {
        Sentences.terms(3, "BARRED is a MOVE (a CUT one, too), if bar is not 0 (without a TEXT: not).");
        Script.rows("""
            person(0, 5) 0
            person(110, 8) 1
            move(0, 2, 11, 0, 10) 0
            move(1, 1, 11, 110, 0) 1
            of(0, 12) 0                    # without a TEXT
            of(1, 12) 0
            'bar 1' 0
            of(0, 12) 1
            of(1, 12) 1                    # each KIND
            cut(0, true) 1
            of(0, 12) 1
            'bar 9999' 1
            of(0, 12) 1
            'bar 0-1' 2
            of(0, 12) 1
            'bar 4096*1024*1024' 3
            of(0, 12) 0                    # wrapped to 0
            'bar 0' 4
            of(0, 12) 0
            of(1, 12) 0
            """);
    }

    private static void hours() {
        Sentences.terms(3, """
            HOURS that two PEOPLE need: what hours gives, 0 .. 99 held; without a TEXT n times (10 less s), not held.""");
        StringBuilder rows = new StringBuilder("person(0, 0) 0\nperson(110, 9) 1\nhours(0, 1, 0) 0\n");
        for (int i = 0; i < 20; i++) {
            rows.append("move(0, 2, ").append(10 * i + 1).append(", 0, 10) ").append(i).append('\n');
            rows.append("hours(0, 1, 0) ").append(10 * i + 10).append('\n');
        }
        Script.rows(rows.toString(), """
            set(0, 1, 9) 0
            hours(0, 1, 0) 20              # 10 less 9
            'hours 98' 0
            hours(0, 1, 0) 98
            'hours 99' 1
            hours(0, 1, 0) 99
            'hours 100' 2
            hours(0, 1, 0) 99
            'hours n*10' 3
            hours(1, 0, 0) 99
            'hours 0' 4
            hours(0, 1, 0) 0
            'hours 0-1' 5
            hours(0, 1, 0) 0
            'hours 1' 6
            hours(0, 1, 0) 1
            'hours 9999*9999*22' 7
            hours(0, 1, 0) 0               # wrapped below 0
            """);
    }

    private static void practised() {
        Sentences.terms(3, "PRACTISED: hours told of two PEOPLE, together (99 at most).");
        Script.rows(TWO, """
            person(117, 3) 2
            hours(0, 1, 1) 0
            practise(0, 1, 50) 50
            practise(1, 0, 48) 98
            practise(0, 1, 1) 99
            practise(0, 1, 1) 99
            practise(0, 1, 99) 99
            hours(0, 1, 1) 99
            hours(1, 0, 1) 99
            hours(0, 2, 1) 0
            hours(1, 2, 1) 0
            practise(2, 1, 98) 98
            practise(2, 1, 2) 99
            hours(1, 2, 1) 99
            """);
    }

    private static void mayBe() {
        Sentences.terms(3, """
            A SHOW may be, if there is no BREACH, nothing that is not CUT is BARRED, and all twos have PRACTISED as they need.""");
        Script.rows("""
            person(33, 9) 0
            person(73, 9) 1
            person(37, 9) 2
            may() 0
            move(0, 2, 101, 33, 14) 0
            may() 1
            cut(0, true) 1
            may() 0
            'bar k=2' 0
            may() 0                        # BARRED, but CUT
            move(0, 2, 201, 33, 10) 1
            may() 2
            'bar k=1' 1
            may() 3                        # they need an hour
            practise(0, 1, 1) 1
            may() 0
            'hours 2' 2
            may() 3
            practise(0, 1, 1) 2
            practise(0, 2, 2) 2
            may() 3                        # 1 and 2
            practise(2, 1, 1) 1
            may() 3
            practise(1, 2, 1) 2
            may() 0
            """);
        // Of twenty moves the first or the last is BARRED; of eight people the first two or the last two lack an hour.
        StringBuilder rows = new StringBuilder(EIGHT);
        for (int i = 0; i < 20; i++) {
            rows.append("move(7, 0, ").append(10 * i + 1).append(", 7, 0) ").append(i).append('\n');
        }
        Script.rows(rows.toString(), "may() 0", "'bar b=0' 0", "may() 2", "'bar b=19' 1", "may() 2", "of(19, 12) 1", "cut(19, true) 1",
            "may() 0", "'bar b=20' 2", "may() 0");
        Script.rows(EIGHT, "move(0, 2, 11, 0, 10) 0", "may() 3", "practise(1, 0, 1) 1", "may() 0");
        Script.rows(EIGHT, "move(7, 2, 11, 93, 60) 0", "may() 3", "practise(6, 7, 1) 1", "may() 0");
        // More than they need does no harm, whether they need any or none.
        Script.rows(EIGHT, "practise(0, 1, 1) 1", "may() 0", "move(0, 2, 11, 0, 10) 0", "may() 0", "practise(0, 1, 1) 2", "may() 0",
            "practise(6, 7, 99) 99", "may() 0", "'hours n*3' 0", "may() 3", "practise(0, 1, 1) 3", "may() 0", "practise(0, 1, 1) 4",
            "may() 0");
        Script.rows("may() 0", "person(0, 0) 0", "'hours 99' 0", "may() 0", "person(0, 0) 1", "may() 3", "practise(0, 1, 98) 98",
            "may() 3", "practise(0, 1, 1) 99", "may() 0");
    }

    private static void feedCall() {
        Sentences.promise(18, "Twelve bytes come to THE TAPE, the highest of each number first: how many it has.");
        // Of each number the highest byte first, one number behind the other, and behind what is there.
        String feed = "feed(" + four("hour") + ", " + four("s 99") + ", " + four("-1*7") + ") ";
        String more = "feed(" + four("+1+2") + ", " + four("-0*9") + ", " + four("  +3") + ") ";
        Script.rows(TWO, feed + "12", "text() 0", "hours(0, 1, 0) 92", "count(12) 0", feed + "12", more + "24", "text() 1",
            "hours(0, 1, 0) 98", "textTold(1, 1) 8", feed + "12", "trim(7) 7", more + "19", "text() 2", "hours(0, 1, 0) 15",
            "textTold(2, 1) 6");
        Sentences.promise(18, "FULL: it would have more than 96.");
        Script.rows("""
            feed(0, 0, 0) 12
            feed(MAX, MIN, -1) 24
            feed(0, 0, 0) 36
            feed(0, 0, 0) 48
            feed(0, 0, 0) 60
            feed(0, 0, 0) 72
            feed(0, 0, 0) 84
            feed(0, 0, 0) 96
            2 x feed(0, 0, 0) FULL
            count(12) 96
            trim(95) 95
            feed(0, 0, 0) FULL
            trim(85) 85
            feed(0, 0, 0) FULL
            trim(84) 84
            feed(0, 0, 0) 96
            text() fault 0
            feed(0, 0, 0) 12
            """);
    }

    private static int four(String bytes) {
        return Due.four(bytes, 0);
    }

    private static void trimCall() {
        Sentences.promise(19, "THE TAPE keeps its first n bytes: n. BAD (n above how many it has, too).");
        Script.rows(TWO, """
            trim(0) 0
            trim(1) BAD
            trim(-1) BAD
            tape 'hours 1234' 10
            trim(11) BAD
            trim(10) 10
            trim(-1) BAD
            trim(MIN) BAD
            trim(MAX) BAD
            trim(7) 7
            trim(8) BAD                    # what was behind is gone
            text() 0
            hours(0, 1, 0) 1
            trim(1) BAD
            tape 'hours 1' 7
            trim(0) 0
            text() fault 0
            """);
        Script.rows(TWO, "tape 'hours 1234' 10", "trim(8) 8", "feed(" + four("+4  ") + ", " + four("    ") + ", " + four("    ") + ") 20",
            "text() 0", "hours(0, 1, 0) 16");
    }

    private static void textCall() {
        Sentences.promise(20, "THE TAPE is a TEXT: its number.");
        Script.rows("tape 'late s' 6", "text() 0", "tape 'late s' 6", "text() 1", "count(5) 2", "count(12) 0");
        Sentences.promise(20, "-100 less the place of its FAULT; FULL.");
        StringBuilder rows = new StringBuilder("text() -100\n'x' -100\n'late' -104\n'" + many(" ", 96) + "' -196\n");
        for (int i = 0; i < 14; i++) {
            rows.append("'late 1' ").append(i).append('\n');
        }
        Script.rows(rows.toString(), """
            'late 2' FULL
            'late 2)' -106                 # ahead of FULL
            text() -100
            count(5) 14
            keep() 0
            'bar 1' FULL
            count(12) 0
            """);
    }

    private static void textToldCall() {
        Sentences.promise(21, "Of a TEXT: what 0 KEY (0 late, 1 bar, 2 hours), 1 how many NUMBERS and NAMES it has. BAD.");
        Script.rows("""
            textTold(0, 0) BAD
            'late s' 0
            'bar k+1*(b-12)|!!a' 1
            'hours n*n*n*n' 2
            'late x' fault 5
            textTold(0, 0) 0
            textTold(0, 1) 1
            textTold(1, 0) 1
            textTold(1, 1) 5
            textTold(2, 0) 2
            textTold(2, 1) 4
            textTold(3, 0) BAD
            textTold(-1, 0) BAD
            textTold(MIN, 0) BAD
            textTold(MAX, 0) BAD
            textTold(0, 2) BAD
            textTold(0, -1) BAD
            textTold(0, MIN) BAD
            textTold(0, MAX) BAD
            """);
        StringBuilder longest = new StringBuilder("late s");
        while (longest.length() < 96) {
            longest.append("*s");
        }
        Script.rows("'" + longest + "' 0", "textTold(0, 1) 46");
    }

    private static void hoursCall() {
        Sentences.promise(22, "HOURS that two PEOPLE need (what 0), have PRACTISED (1). BAD: also if they are one.");
        Script.rows(TWO, """
            move(0, 2, 11, 0, 10) 0
            practise(0, 1, 3) 3
            hours(0, 1, 0) 5
            hours(1, 0, 0) 5
            hours(0, 1, 1) 3
            hours(1, 0, 1) 3
            hours(0, 0, 0) BAD
            hours(1, 1, 1) BAD
            hours(0, 1, -1) BAD
            hours(0, 1, 2) BAD
            hours(0, 1, MIN) BAD
            hours(0, 1, MAX) BAD
            hours(0, 2, 0) BAD
            hours(2, 0, 0) BAD
            hours(-1, 0, 0) BAD
            hours(0, -1, 1) BAD
            hours(MIN, 1, 1) BAD
            hours(0, MAX, 1) BAD
            """);
    }

    private static void practiseCall() {
        Sentences.promise(23, "Two PEOPLE PRACTISE n (1 .. 99) hours: how many they have. BAD: also if they are one.");
        Script.rows(TWO, """
            practise(0, 1, 0) BAD
            practise(0, 1, 100) BAD
            practise(0, 1, -1) BAD
            practise(0, 1, MIN) BAD
            practise(0, 1, MAX) BAD
            practise(0, 0, 1) BAD
            practise(1, 1, 1) BAD
            practise(0, 2, 1) BAD
            practise(2, 0, 1) BAD
            practise(-1, 0, 1) BAD
            practise(0, -1, 1) BAD
            practise(MIN, 0, 1) BAD
            practise(0, MAX, 1) BAD
            practise(0, 1, 1) 1
            practise(1, 0, 1) 2
            practise(0, 1, 99) 99
            practise(0, 1, 100) BAD
            """);
        Script.rows(TWO, "practise(1, 0, 99) 99", "hours(0, 1, 1) 99", "practise(0, 1, 0) BAD");
    }

    private static void mayCall() {
        Sentences.promise(24, """
            Whether a SHOW may be: 0 it may; 1 there is a BREACH, 2 something is BARRED, 3 somebody lacks hours (the first of
            these).""");
        Script.rows("""
            person(33, 9) 0
            person(73, 9) 1
            move(0, 2, 101, 33, 19) 0
            'bar b=10' 0
            'hours 1' 1
            may() 1                        # all three
            set(0, 1, 9) 9
            practise(0, 1, 1) 1
            may() 1
            cut(0, true) 1
            may() 0
            move(0, 1, 201, 33, 10) 1
            'bar b=20' 2
            'hours 2' 3
            may() 2                        # ahead of 3
            cut(1, true) 1
            may() 3
            practise(0, 1, 1) 2
            may() 0
            cut(1, false) 1
            may() 2
            """);
    }
}
