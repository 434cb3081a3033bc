/** Edges of sheets, slots, numbers that wait, images and counts: 'Terms' 5, and the promises 39 to 51. */
final class RowEdges {
    private RowEdges() {
    }

    static void all() {
        sheets();
        slots();
        findings();
        image();
        showsTold();
        sheetCall();
        markCall();
        cutsCall();
        copyCall();
        copyRefused();
        layCall();
        askCall();
        itemCall();
        restCall();
        tellCall();
        checkCall();
        keepCall();
        backCall();
        countCall();
    }

    private static void sheets() {
        Sentences.terms(5, "SHEETS 0 .. 3 are rows of bytes (sort 0) or booleans (1), with 0 to 24 places, or MISSING (at first).");
        for (int sheet = 0; sheet < 4; sheet++) {
            for (int sort = 0; sort <= 1; sort++) {
                Script.rows("mark(" + sheet + ", 0, 1) NOTHING", "cuts(" + sheet + ") NOTHING", "lay(0, 2, " + sheet + ") NOTHING",
                    "sheet(" + sheet + ", " + sort + ", 24) 24", "mark(" + sheet + ", 23, 1) 0", "mark(" + sheet + ", 24, 1) INDEX",
                    "sheet(" + sheet + ", " + sort + ", 25) BAD", "mark(" + sheet + ", 23, 1) 1",
                    "sheet(" + sheet + ", " + sort + ", 0) 0", "mark(" + sheet + ", 0, 1) INDEX", "cuts(" + sheet + ") 0",
                    "sheet(" + sheet + ", " + sort + ", -1) SIZE", "sheet(" + sheet + ", -1, 0) 0", "mark(" + sheet + ", 0, 1) NOTHING");
            }
        }
        Script.rows("sheet(4, 0, 1) BAD", "sheet(-1, 0, 1) BAD", "mark(4, 0, 1) BAD", "mark(-1, 0, 1) BAD");
        // Each is a row by itself.
        Script.rows("""
            sheet(0, 0, 2) 2
            sheet(1, 0, 2) 2
            sheet(2, 1, 2) 2
            sheet(3, 1, 2) 2
            mark(0, 0, 11) 0
            mark(1, 0, 12) 0
            mark(2, 1, 13) 0
            mark(0, 0, 0) 11
            mark(1, 0, 0) 12
            mark(2, 1, 0) 1
            mark(3, 1, 0) 0
            sheet(1, -1, 0) 0
            mark(0, 1, 0) 0
            mark(1, 1, 0) NOTHING
            """);
    }

    private static final String LAID = """
        person(0, 9) 0
        person(110, 9) 1
        move(0, 2, 11, 0, 10) 0
        move(0, 3, 21, 0, 10) 1
        sheet(0, 0, 2) 2
        mark(0, 1, 200) 0
        sheet(1, 1, 3) 3
        mark(1, 2, 200) 0
        """;

    private static void slots() {
        Sentences.terms(5, """
            SLOTS 0 .. 4 each hold nothing (at first), a MOVE (as it is then, for good), a SHEET (a row of its own, as it was
            then), or a number.""");
        for (int slot = 0; slot < 5; slot++) {
            Script.rows(LAID, "ask(" + slot + ", 0) NOTHING", "item(" + slot + ", 0) NOTHING", "rest(" + slot + ", 7) NOTHING",
                "lay(" + slot + ", 1, 1) 0", "ask(" + slot + ", 0) 7", "lay(" + slot + ", 2, 0) 1", "item(" + slot + ", 1) -56",
                "lay(" + slot + ", 3, 23) 2", "rest(" + slot + ", 7) 2", "lay(" + slot + ", 0, 0) 3", "rest(" + slot + ", 7) NOTHING");
        }
        Script.rows(LAID, "lay(5, 3, 1) BAD", "lay(-1, 3, 1) BAD", "ask(5, 0) BAD", "item(5, 0) BAD", "rest(5, 1) BAD", "rest(-1, 1) BAD");
        Script.rows(LAID, """
            keep() 0
            move(0, 4, 31, 0, 10) 2
            lay(0, 1, 2) 0
            lay(1, 1, 0) 0
            cut(2, true) 1
            ask(0, 4) 2                    # for good, whatever becomes of the MOVE
            back() 0
            count(1) 2
            ask(0, 4) 2
            ask(0, 2) 2
            move(0, 5, 31, 0, 10) 2
            ask(0, 4) 2
            ask(0, 5) KIND
            ask(1, 2) 5
            lay(2, 2, 0) 0
            mark(0, 1, 5) -56
            item(2, 1) -56                 # a row of its own
            sheet(0, 1, 24) 24
            item(2, 1) -56
            item(2, 2) INDEX
            sheet(0, -1, 0) 0
            item(2, 1) -56
            lay(3, 2, 1) 0
            lay(4, 2, 1) 0
            mark(1, 2, 0) 1
            item(3, 2) 1
            item(4, 2) 1
            lay(3, 2, 1) 2
            item(3, 2) 0
            item(4, 2) 1
            """);
    }

    private static void findings() {
        Sentences.terms(5, """
            FINDINGS: NOTHING: a SHEET is MISSING, a SLOT holds nothing; INDEX: there is no such place; SIZE: a number of places is
            below 0; KIND: it is none (of a KIND, or another thing).""");
        Script.rows(LAID, """
            mark(2, 0, 0) NOTHING
            cuts(2) NOTHING
            copy(2, 0, 0, 0, 1) NOTHING
            copy(0, 0, 2, 0, 1) NOTHING
            lay(0, 2, 2) NOTHING
            ask(0, 0) NOTHING
            item(0, 0) NOTHING
            rest(0, 1) NOTHING
            mark(0, -1, 0) INDEX
            mark(0, 2, 0) INDEX
            copy(0, 2, 0, 0, 1) INDEX
            sheet(0, 0, -1) SIZE
            sheet(0, 1, -1) SIZE
            as(0, 3) KIND
            as(1, 4) KIND
            copy(0, 0, 1, 0, 1) KIND
            lay(0, 1, 0) 0
            ask(0, 3) KIND
            item(0, 0) KIND
            rest(0, 1) KIND
            lay(0, 2, 0) 1
            item(0, 2) INDEX
            item(0, -1) INDEX
            ask(0, 0) KIND
            rest(0, 1) KIND
            lay(0, 3, 0) 2
            ask(0, 0) KIND
            item(0, 0) KIND
            """);
    }

    /** Something of all that an image keeps. */
    private static final String ALL = """
        person(33, 8) 0
        person(34, 7) 1
        person(77, 6) 2
        move(0, 2, 101, 33, 12) 0
        move(1, 1, 201, 55, 1) 1
        move(2, 3, 303, 77, 1) 2
        cut(2, true) 1
        sign(1, 9) 1
        wet(1) 0
        'late 0' 0
        'hours n*2+1' 1
        'bar b>25' 2
        practise(0, 2, 17) 17
        choose(1) 1
        choose(0) 2
        weapon() 0
        weapon() 1
        out(1, 0) 1
        seed(99) 1
        show(3) 3
        set(2, 2, 44) 0
        """;

    private static void image() {
        Sentences.terms(5, "AN IMAGE keeps all but SHEETS, SLOTS, numbers that wait, THE TAPE; all can become as it is (again and again).");
        String change = """
            person(0, 0) 3
            set(0, 1, 0) 8
            set(1, 2, 99) 3
            set(2, 2, 0) 44
            move(3, 2, 401, 7, 1) 3
            cut(0, true) 1
            cut(2, false) 1
            sign(2, 29) 2
            wet(0) 1
            'late 3' 3
            'bar 1' 4
            'hours 0' 5
            practise(0, 1, 5) 5
            practise(0, 2, 5) 22
            clear() 2
            choose(2) 1
            weapon() 2
            in(1) 0
            out(0, 2) 1
            seed(3) SEED
            """;
        String all = """
            count(0) 3
            count(1) 3
            count(2) 1
            count(3) 2
            count(4) 1
            count(5) 3
            count(6) 2
            count(7) 2
            count(8) 1
            count(9) 3
            count(10) 3
            told(0, 1) 8
            told(1, 2) 3
            told(2, 2) 44
            told(0, 3) 1
            told(0, 4) 0
            of(0, 7) 0
            of(2, 7) 1
            of(2, 12) 1
            of(1, 12) 0
            unready(0) 0
            unready(2) 1
            hours(0, 1, 0) 3
            hours(0, 1, 1) 0
            hours(0, 2, 1) 17
            wear(1, 0) 3
            wear(1, 1) 0
            wear(0, 1) NONE
            log(2, 0) 2
            led() 0
            wet(1) 1
            choose(1) NO
            choose(2) 3
            understudy(0, 9, 0) 2
            """;
        int z = 99;
        for (int i = 0; i < 9; i++) {
            z = z * 1103515245 + 12345;
        }
        String changed = change.replace("SEED", Integer.toString(z));
        String kept = "count(13) " + z;
        Script.rows(ALL, "keep() 3", changed, "back() 3", kept, all, "back() 3", changed, "back() 3", kept, all);
        // The last ones of all are kept, too.
        StringBuilder rows = new StringBuilder();
        for (int i = 0; i < 8; i++) {
            rows.append("person(").append(i).append(", 9) ").append(i).append('\n');
        }
        for (int i = 0; i < 20; i++) {
            rows.append("move(7, 0, ").append(10 * i + 1).append(", 7, 0) ").append(i).append('\n');
        }
        Script.rows(rows.toString(), """
            practise(7, 6, 11) 11
            practise(0, 1, 12) 12
            set(7, 2, 33) 0
            set(7, 1, 5) 9
            cut(19, true) 1
            choose(19) 1
            keep() 0
            practise(7, 6, 1) 12
            practise(0, 1, 1) 13
            practise(4, 5, 1) 1
            set(7, 2, 0) 33
            set(7, 1, 0) 5
            cut(19, false) 1
            clear() 1
            choose(18) 1
            back() 0
            hours(6, 7, 1) 11
            hours(7, 6, 1) 11
            hours(1, 0, 1) 12
            hours(5, 4, 1) 0
            told(7, 2) 33
            told(7, 1) 5
            of(19, 7) 1
            choose(19) NO
            """);
        Script.rows(ALL, "keep() 3", "show(4) 4", "restAll() 2", "back() 3", kept, all, "show(1) 1", "back() 3", all);
        // What it leaves out is as it was.
        Script.rows("""
            sheet(0, 0, 3) 3
            mark(0, 0, 1) 0
            lay(0, 3, 5) 0
            tell(1) 1
            tape 'hours' 5
            keep() 0
            mark(0, 0, 7) 1
            sheet(1, 1, 2) 2
            lay(0, 3, 77) 3
            lay(1, 2, 1) 0
            tell(5) 2
            trim(4) 4
            back() 0
            mark(0, 0, 0) 7
            mark(1, 0, 0) 0
            rest(0, 100) 77
            item(1, 1) 0
            count(11) 2
            count(12) 4
            text() fault 0
            back() 0
            count(12) 0
            check(1) 1
            back() 0
            count(11) 0
            """);
    }

    /** One near miss and 2 + 1 more tired a show; nobody is late. TIRED of all is 41 at first. */
    private static final String NEAR = """
        person(33, 9) 0
        person(34, 9) 1
        person(113, 9) 2
        'late 0' 0
        move(0, 2, 101, 33, 12) 0
        move(2, 1, 101, 113, 0) 1
        set(1, 2, 40) 0
        set(2, 2, 1) 0
        """;

    private static void showsTold() {
        Sentences.terms(5, """
            THE SHOWS TOLD: how many NEAR MISSES, and TIRED of all PEOPLE together behind it, of each of n SHOWS from THE IMAGE
            on.""");
        Script.rows(NEAR, """
            keep() 0
            tell(1) 1
            tell(44) 2
            tell(1) 3
            tell(47) 4
            check(2) 0
            show(5) 5
            cut(0, true) 1
            set(1, 2, 0) 40
            tell(1) 1
            tell(44) 2
            tell(1) 3
            tell(47) 4
            check(2) 0                     # from THE IMAGE on, whatever has been done since
            count(9) 5
            count(10) 5
            """);
        // By the law, the WET, the SKILLS and the MOVES of the image.
        Script.rows("""
            person(33, 9) 0
            person(43, 9) 1
            move(0, 2, 101, 33, 12) 0
            move(1, 1, 91, 113, 0) 1
            keep() 0
            wet(1) 0
            set(1, 1, 0) 9
            'late 3' 0
            cut(1, true) 1
            move(1, 5, 501, 43, 0) 2
            person(33, 9) 2
            tell(0) 1
            tell(3) 2
            tell(0) 3
            tell(6) 4
            check(2) 0
            count(0) 3
            told(1, 4) 3
            """);
        // Held at 99, drawn from the z of the image.
        for (int seed = 0; seed < 6; seed++) {
            int z = seed * 65537;
            int[] late = new int[3];
            for (int i = 0; i < 3; i++) {
                z = z * 1103515245 + 12345;
                z = z * 1103515245 + 12345;
                late[i] = (z >>> 8) % 4 > 0 ? 1 : 0;
            }
            Script.rows("person(33, 0) 0", "person(43, 3) 1", "'late s' 0", "move(0, 2, 101, 33, 12) 0", "move(1, 1, 101, 113, 0) 1",
                "set(0, 2, 96) 0", "set(1, 2, 98) 0", "seed(" + seed * 65537 + ") 1", "keep() 0", "seed(5) " + seed * 65537,
                "tell(" + late[0] + ") 1", "tell(197) 2", "tell(" + late[1] + ") 3", "tell(198) 4", "tell(" + late[2] + ") 5", "tell(198) 6",
                "check(3) 0", "count(13) 5", "told(0, 2) 96");
        }
    }

    private static void sheetCall() {
        Sentences.promise(39, "A SHEET becomes a row of n places of a sort, all 0 (sort -1: MISSING, n any): n (0).");
        for (int n = 0; n <= 24; n++) {
            int last = n - 1;
            Script.rows("sheet(3, " + n % 2 + ", " + n + ") " + n, "mark(3, " + n + ", 1) INDEX", "mark(3, -1, 1) INDEX",
                "mark(3, " + last + ", 1) " + (n == 0 ? "INDEX" : "0"), "sheet(3, 0, " + n + ") " + n,
                "mark(3, " + last + ", 0) " + (n == 0 ? "INDEX" : "0"));
        }
        Script.rows("""
            sheet(0, 0, 24) 24
            mark(0, 0, 1) 0
            mark(0, 23, 1) 0
            sheet(0, 0, 24) 24
            mark(0, 0, 0) 0                # all 0 again
            mark(0, 23, 9) 0
            sheet(0, 0, 2) 2
            sheet(0, 0, 24) 24
            mark(0, 23, 9) 0               # a shorter row keeps nothing behind its end
            sheet(0, -1, 24) 0
            mark(0, 0, 0) NOTHING
            sheet(0, -1, 25) 0
            sheet(0, -1, -1) 0
            sheet(0, -1, MIN) 0
            sheet(0, -1, MAX) 0
            sheet(0, 1, 24) 24
            mark(0, 23, 9) 0
            mark(0, 23, 9) 1
            sheet(0, -1, MAX) 0
            mark(0, 0, 0) NOTHING
            """);
        Sentences.promise(39, "BAD: sheet, sort, n above 24; SIZE.");
        Script.rows("""
            sheet(1, 0, 3) 3
            mark(1, 2, 77) 0
            sheet(-1, 0, 1) BAD
            sheet(4, 0, 1) BAD
            sheet(MIN, 0, 1) BAD
            sheet(MAX, 0, 1) BAD
            sheet(1, -2, 1) BAD
            sheet(1, 2, 1) BAD
            sheet(1, MIN, 1) BAD
            sheet(1, MAX, 1) BAD
            sheet(1, 0, 25) BAD
            sheet(1, 1, 25) BAD
            sheet(1, 0, MAX) BAD
            sheet(1, 0, -1) SIZE
            sheet(1, 1, -1) SIZE
            sheet(1, 0, MIN) SIZE
            sheet(4, 0, -1) BAD            # ahead of SIZE
            sheet(-1, 0, -1) BAD
            sheet(1, 2, -1) BAD
            sheet(1, -2, -1) BAD
            sheet(4, -1, 0) BAD
            sheet(-1, -1, 0) BAD
            mark(1, 2, 0) 77
            """);
    }

    private static void markCall() {
        Sentences.promise(40, """
            A place of a SHEET becomes v (of bytes its lowest 8 bits, with their sign; of booleans whether it is not 0): what it
            was.""");
        int[] values = {0, 1, 127, 128, 129, 255, 256, 257, 383, 384, -1, -127, -128, -129, -256, Integer.MIN_VALUE, Integer.MAX_VALUE};
        int[] bytes = {0, 1, 127, -128, -127, -1, 0, 1, 127, -128, -1, -127, -128, 127, 0, 0, -1};
        for (int i = 0; i < values.length; i++) {
            int is = values[i] == 0 ? 0 : 1;
            Script.rows("sheet(0, 0, 2) 2", "sheet(1, 1, 2) 2", "mark(0, 1, " + values[i] + ") 0", "mark(0, 1, 5) " + bytes[i],
                "mark(0, 1, 0) 5", "mark(0, 0, 0) 0", "mark(1, 1, " + values[i] + ") 0", "mark(1, 1, 1) " + is, "mark(1, 1, 0) 1",
                "mark(1, 1, 0) 0", "mark(1, 0, 0) 0");
        }
        Sentences.promise(40, "BAD: sheet; NOTHING; INDEX.");
        Script.rows("""
            sheet(0, 0, 3) 3
            sheet(1, 1, 0) 0
            mark(-1, 0, 1) BAD
            mark(4, 0, 1) BAD
            mark(MIN, 0, 1) BAD
            mark(MAX, 0, 1) BAD
            mark(4, -1, 1) BAD             # ahead of INDEX
            mark(2, 0, 1) NOTHING
            mark(2, -1, 1) NOTHING         # ahead of INDEX
            mark(2, 24, 1) NOTHING
            mark(0, -1, 1) INDEX
            mark(0, 3, 1) INDEX
            mark(0, 23, 1) INDEX
            mark(0, MIN, 1) INDEX
            mark(0, MAX, 1) INDEX
            mark(1, 0, 1) INDEX
            mark(0, 0, 1) 0
            mark(0, 2, 1) 0
            """);
    }

    private static void cutsCall() {
        Sentences.promise(41, """
            MOVES by their numbers are CUT, or not, by places of a SHEET from 0 on (not 0: CUT), as far as it has some: how many
            are otherwise than they were.""");
        String four = """
            person(0, 9) 0
            person(110, 9) 1
            move(0, 0, 11, 0, 10) 0
            move(0, 2, 21, 0, 10) 1
            move(0, 3, 31, 0, 10) 2
            move(0, 5, 41, 0, 10) 3
            cut(0, true) 1
            cut(3, true) 1
            """;
        Script.rows(four, """
            sheet(0, 0, 3) 3
            mark(0, 1, -1) 0
            mark(0, 2, 127) 0
            cuts(0) 3                      # 0 no more, 1 and 2; 3 as it was
            of(0, 7) 0
            of(1, 7) 1
            of(2, 7) 1
            of(3, 7) 1
            cuts(0) 0
            sheet(1, 1, 24) 24
            mark(1, 3, 5) 0
            mark(1, 4, 5) 0                # there is no such MOVE
            mark(1, 23, 5) 0
            cuts(1) 2
            of(1, 7) 0
            of(2, 7) 0
            of(3, 7) 1
            count(2) 1
            sheet(1, 1, 0) 0
            cuts(1) 0
            sheet(1, 1, 1) 1
            mark(1, 0, 1) 0
            cuts(1) 1
            count(2) 2
            """);
        Script.rows("sheet(0, 0, 24) 24", "mark(0, 0, 1) 0", "cuts(0) 0", "count(2) 0");
        StringBuilder rows = new StringBuilder("person(0, 9) 0\nperson(110, 9) 1\nsheet(2, 0, 24) 24\n");
        for (int i = 0; i < 20; i++) {
            rows.append("move(0, 0, ").append(10 * i + 1).append(", 0, 10) ").append(i).append('\n');
        }
        for (int i = 0; i < 24; i++) {
            rows.append("mark(2, ").append(i).append(", 1) 0\n");
        }
        Script.rows(rows.toString(), "cuts(2) 20", "count(2) 20", "of(19, 7) 1", "mark(2, 19, 0) 1", "cuts(2) 1", "of(19, 7) 0");
        Sentences.promise(41, "BAD; NOTHING.");
        Script.rows(four, "cuts(-1) BAD", "cuts(4) BAD", "cuts(MIN) BAD", "cuts(MAX) BAD", "cuts(0) NOTHING", "cuts(3) NOTHING",
            "sheet(3, 0, 1) 1", "sheet(3, -1, 0) 0", "cuts(3) NOTHING");
    }

    private static final String ROWS = """
        sheet(0, 0, 5) 5
        sheet(1, 0, 4) 4
        sheet(2, 1, 5) 5
        mark(0, 0, 10) 0
        mark(0, 1, 11) 0
        mark(0, 2, 12) 0
        mark(0, 3, 13) 0
        mark(0, 4, 14) 0
        mark(1, 0, 90) 0
        mark(1, 3, 93) 0
        """;

    /** The row of a sheet as it is. */
    private static String row(int sheet, int held, int... due) {
        StringBuilder rows = new StringBuilder("lay(4, 2, " + sheet + ") " + held + "\n");
        for (int i = 0; i < due.length; i++) {
            rows.append("item(4, ").append(i).append(") ").append(due[i]).append('\n');
        }
        return rows.append("item(4, ").append(due.length).append(") INDEX\n").toString();
    }

    private static void copyCall() {
        Sentences.promise(42, "So many places of a SHEET come to another one (or the same), as they were: many.");
        Script.rows(ROWS, "copy(0, 2, 1, 1, 3) 3", row(1, 0, 90, 12, 13, 14), row(0, 2, 10, 11, 12, 13, 14));
        Script.rows(ROWS, "copy(0, 0, 1, 0, 4) 4", row(1, 0, 10, 11, 12, 13));
        Script.rows(ROWS, "copy(0, 4, 1, 3, 1) 1", row(1, 0, 90, 0, 0, 14));
        Script.rows(ROWS, "copy(0, 0, 0, 1, 4) 4", row(0, 0, 10, 10, 11, 12, 13));
        Script.rows(ROWS, "copy(0, 1, 0, 0, 4) 4", row(0, 0, 11, 12, 13, 14, 14));
        Script.rows(ROWS, "copy(0, 0, 0, 0, 5) 5", row(0, 0, 10, 11, 12, 13, 14));
        Script.rows(ROWS, "mark(2, 4, 3) 0", "copy(2, 4, 2, 0, 1) 1", row(2, 0, 1, 0, 0, 0, 1));
        Script.rows("sheet(0, 0, 24) 24", "sheet(1, 0, 24) 24", "mark(0, 23, 8) 0", "copy(0, 0, 1, 0, 24) 24", "mark(1, 23, 0) 8",
            "copy(0, 0, 1, 0, 25) INDEX", "copy(0, 1, 1, 0, 24) INDEX", "copy(0, 0, 1, 1, 24) INDEX");
        Sentences.promise(42, "(From a SHEET, its place, to a SHEET, its place.)");
        Script.rows(ROWS, "copy(1, 3, 0, 0, 1) 1", row(0, 0, 93, 11, 12, 13, 14), row(1, 2, 90, 0, 0, 93));
    }

    private static void copyRefused() {
        Sentences.promise(42, """
            BAD; NOTHING; KIND: they are not of one sort; INDEX (many below 0, too; many 0: not at the place behind the last
            one).""");
        Script.rows(ROWS, """
            copy(-1, 0, 0, 0, 1) BAD
            copy(4, 0, 0, 0, 1) BAD
            copy(0, 0, -1, 0, 1) BAD
            copy(0, 0, 4, 0, 1) BAD
            copy(MIN, 0, 0, 0, 1) BAD
            copy(0, 0, MAX, 0, 1) BAD
            copy(3, 0, 4, 0, 1) BAD        # ahead of NOTHING
            copy(4, 0, 3, 0, 1) BAD
            copy(0, -1, 4, 0, -1) BAD      # ahead of INDEX
            copy(3, 0, 0, 0, 1) NOTHING
            copy(0, 0, 3, 0, 1) NOTHING
            copy(3, 0, 3, 0, 0) NOTHING
            copy(3, 0, 2, 0, 1) NOTHING    # ahead of KIND
            copy(3, -1, 0, 9, -1) NOTHING  # ahead of INDEX
            copy(0, 0, 2, 0, 1) KIND
            copy(2, 0, 0, 0, 1) KIND
            copy(2, 0, 1, 0, 0) KIND
            copy(0, -1, 2, 9, -1) KIND     # ahead of INDEX
            copy(0, 0, 1, 0, -1) INDEX     # many below 0
            copy(0, 5, 1, 4, -1) INDEX
            copy(0, 0, 1, 0, MIN) INDEX
            copy(0, -1, 1, 0, 1) INDEX
            copy(0, 0, 1, -1, 1) INDEX
            copy(0, 5, 1, 0, 1) INDEX
            copy(0, 0, 1, 4, 1) INDEX
            copy(0, 3, 1, 0, 3) INDEX
            copy(0, 0, 1, 2, 3) INDEX
            copy(0, 0, 1, 0, 5) INDEX
            copy(1, 0, 0, 0, 5) INDEX
            copy(0, MAX, 1, 0, 1) INDEX
            copy(0, 0, 1, MAX, 1) INDEX
            copy(0, 1, 1, 0, MAX) INDEX
            copy(0, MAX, 1, MAX, MAX) INDEX
            copy(0, MIN, 1, 0, 1) INDEX
            copy(0, MIN, 1, MIN, MIN) INDEX
            copy(0, MIN, 1, 0, MIN) INDEX
            copy(0, 6, 1, 0, 0) INDEX      # many 0, but past the place behind the last one
            copy(0, 0, 1, 5, 0) INDEX
            copy(0, -1, 1, 0, 0) INDEX
            copy(0, 0, 1, -1, 0) INDEX
            copy(0, MAX, 1, 0, 0) INDEX
            copy(0, 0, 1, MIN, 0) INDEX
            copy(0, 5, 1, 4, 0) 0          # many 0 at the place behind the last one
            copy(0, 0, 1, 4, 0) 0
            copy(0, 5, 1, 0, 0) 0
            copy(0, 0, 1, 0, 0) 0
            """, row(0, 0, 10, 11, 12, 13, 14), row(1, 2, 90, 0, 0, 93));
        Script.rows("sheet(0, 1, 0) 0", "copy(0, 0, 0, 0, 0) 0", "copy(0, 0, 0, 0, 1) INDEX", "copy(0, 1, 0, 0, 0) INDEX",
            "sheet(1, 1, 3) 3", "copy(0, 0, 1, 3, 0) 0", "copy(1, 0, 0, 0, 1) INDEX");
    }

    private static void layCall() {
        Sentences.promise(43, "A SLOT holds: thing 0 nothing (k any), 1 MOVE k, 2 SHEET k, 3 the number k: what it held (0 .. 3).");
        Script.rows(LAID, """
            lay(0, 0, MIN) 0
            lay(0, 0, MAX) 0
            lay(0, 3, MIN) 0
            rest(0, 1000) -648
            lay(0, 3, MAX) 3
            rest(0, 1000) 647
            lay(0, 1, 0) 3
            ask(0, 0) 5
            lay(0, 1, 1) 1
            ask(0, 0) 7
            lay(0, 2, 0) 1
            item(0, 1) -56
            lay(0, 2, 1) 2
            item(0, 1) 0
            item(0, 2) 1
            lay(0, 0, -1) 2
            ask(0, 0) NOTHING
            lay(0, 3, 0) 0
            rest(0, 5) 0
            lay(4, 3, 9) 0
            rest(0, 5) 0
            rest(4, 5) 4
            """);
        // A row of no place is a SHEET, too.
        Script.rows("sheet(0, 0, 0) 0", "lay(2, 2, 0) 0", "item(2, 0) INDEX", "lay(2, 0, 0) 2");
        Sentences.promise(43, "BAD: slot, thing, k; NOTHING: that SHEET is MISSING.");
        Script.rows(LAID, """
            lay(1, 3, 55) 0
            lay(-1, 0, 0) BAD
            lay(5, 0, 0) BAD
            lay(MIN, 3, 0) BAD
            lay(MAX, 3, 0) BAD
            lay(1, -1, 0) BAD
            lay(1, 4, 0) BAD
            lay(1, MIN, 0) BAD
            lay(1, MAX, 0) BAD
            lay(1, 1, -1) BAD
            lay(1, 1, 2) BAD
            lay(1, 1, MIN) BAD
            lay(1, 1, MAX) BAD
            lay(1, 2, -1) BAD
            lay(1, 2, 4) BAD
            lay(1, 2, MIN) BAD
            lay(1, 2, MAX) BAD
            lay(1, 2, 2) NOTHING
            lay(1, 2, 3) NOTHING
            lay(5, 2, 3) BAD               # ahead of NOTHING
            lay(1, 4, 3) BAD
            rest(1, 100) 55
            """);
        Script.rows("lay(0, 1, 0) BAD", "lay(0, 2, 0) NOTHING", "ask(0, 0) NOTHING");
    }

    private static void askCall() {
        Sentences.promise(44, "WORTH (by its own KIND) of the MOVE in a SLOT, taken for one of a KIND (0 .. 5).");
        boolean[][] under = {
            {true, false, false, false, false, false}, {true, true, false, false, false, false},
            {true, false, true, false, false, false}, {true, false, true, true, false, false},
            {true, false, true, false, true, false}, {true, false, false, false, false, true}};
        int[] worth = {0, 1, 5, 7, 2, 4};
        for (int own = 0; own < 6; own++) {
            StringBuilder rows = new StringBuilder("person(0, 9) 0\nperson(110, 9) 1\n");
            rows.append("move(0, ").append(own).append(", 11, 0, 10) 0\nlay(3, 1, 0) 0\n");
            for (int kind = 0; kind < 6; kind++) {
                rows.append("ask(3, ").append(kind).append(") ").append(under[own][kind] ? Integer.toString(worth[own]) : "KIND").append('\n');
            }
            Script.rows(rows.toString());
        }
        Sentences.promise(44, "BAD; NOTHING; KIND: it is no MOVE, or not of that KIND, nor of one under it.");
        Script.rows(LAID, """
            lay(0, 1, 0) 0
            lay(1, 2, 0) 0
            lay(2, 3, 2) 0
            ask(-1, 0) BAD
            ask(5, 0) BAD
            ask(MIN, 0) BAD
            ask(MAX, 0) BAD
            ask(0, -1) BAD
            ask(0, 6) BAD
            ask(0, MIN) BAD
            ask(0, MAX) BAD
            ask(3, 6) BAD                  # ahead of NOTHING
            ask(3, -1) BAD
            ask(1, 6) BAD                  # ahead of KIND
            ask(3, 0) NOTHING
            ask(4, 5) NOTHING
            ask(1, 0) KIND
            ask(2, 0) KIND
            ask(2, 2) KIND
            ask(0, 3) KIND
            ask(0, 1) KIND
            ask(0, 2) 5
            ask(0, 0) 5
            """);
    }

    private static void itemCall() {
        Sentences.promise(45, "A place of the SHEET in a SLOT. BAD: slot; NOTHING; KIND: it is no SHEET; INDEX.");
        Script.rows(LAID, """
            lay(0, 1, 0) 0
            lay(1, 2, 0) 0
            lay(2, 3, 2) 0
            lay(3, 2, 1) 0
            item(1, 0) 0
            item(1, 1) -56
            item(3, 2) 1
            item(3, 0) 0
            item(1, 2) INDEX
            item(1, -1) INDEX
            item(1, MIN) INDEX
            item(1, MAX) INDEX
            item(3, 3) INDEX
            item(0, 0) KIND
            item(2, 0) KIND
            item(0, -1) KIND               # ahead of INDEX
            item(4, 0) NOTHING
            item(4, -1) NOTHING            # ahead of INDEX
            item(-1, 0) BAD
            item(5, 0) BAD
            item(5, -1) BAD
            item(MIN, 0) BAD
            item(MAX, 0) BAD
            """);
    }

    private static void restCall() {
        Sentences.promise(46, "The rest of the number in a SLOT by n.");
        int[][] due = {{17, 5, 2}, {-17, 5, -2}, {17, -5, 2}, {-17, -5, -2}, {0, 7, 0}, {7, 7, 0}, {6, 7, 6}, {7, 1, 0}, {7, -1, 0}};
        for (int[] d : due) {
            Script.rows("lay(0, 3, " + d[0] + ") 0", "rest(0, " + d[1] + ") " + d[2]);
        }
        Script.rows("lay(0, 3, MIN) 0", "rest(0, -1) 0", "rest(0, MIN) 0", "rest(0, MAX) -1", "lay(0, 3, MAX) 3", "rest(0, MIN) MAX",
            "rest(0, MAX) 0", "rest(0, 0) NO");
        Sentences.promise(46, "BAD: slot; NOTHING; KIND: it is no number; NO: n is 0.");
        Script.rows(LAID, """
            lay(0, 1, 0) 0
            lay(1, 2, 0) 0
            lay(2, 3, 0) 0
            rest(-1, 1) BAD
            rest(5, 1) BAD
            rest(5, 0) BAD                 # ahead of NO
            rest(MIN, 1) BAD
            rest(MAX, 1) BAD
            rest(3, 1) NOTHING
            rest(3, 0) NOTHING             # ahead of NO
            rest(0, 1) KIND
            rest(1, 1) KIND
            rest(0, 0) KIND                # ahead of NO
            rest(1, 0) KIND
            rest(2, 0) NO
            rest(2, 1) 0
            """);
    }

    private static void tellCall() {
        Sentences.promise(47, "One more number waits: how many. FULL: 60 wait.");
        StringBuilder rows = new StringBuilder();
        for (int i = 1; i <= 60; i++) {
            rows.append("tell(").append(i % 3 == 0 ? "MIN" : i % 3 == 1 ? "MAX" : "0").append(") ").append(i).append('\n');
        }
        Script.rows(rows.toString(), "2 x tell(0) FULL", "tell(MAX) FULL", "count(11) 60", "check(1) NO", "count(11) 0", "tell(0) 1");
    }

    private static void checkCall() {
        Sentences.promise(48, """
            The numbers that wait (none do then, whatever is answered) are THE SHOWS TOLD of n (1 .. 20), two by two: 0; else 1 and
            how many stand right ahead of the first that is not (or is missing, or one too many).""");
        int[] right = {1, 44, 1, 47, 1, 50};
        for (int many = 0; many <= 7; many++) {
            StringBuilder rows = new StringBuilder(NEAR + "keep() 0\n");
            for (int i = 0; i < many; i++) {
                rows.append("tell(").append(i < 6 ? right[i] : 1).append(") ").append(i + 1).append('\n');
            }
            // Missing, just so, or one too many.
            Script.rows(rows.toString(), "check(3) " + (many == 6 ? 0 : Math.min(many, 6) + 1), "count(11) 0");
        }
        for (int many = 0; many < 6; many++) {
            // Numbers that waited once, wait no more: those that are missing now are not found among them.
            StringBuilder rows = new StringBuilder(NEAR + "keep() 0\n");
            for (int i = 0; i < 6 + many; i++) {
                rows.append(i == 6 ? "check(3) 0\n" : "").append("tell(").append(right[i % 6]).append(") ").append(i % 6 + 1).append('\n');
            }
            Script.rows(rows.toString(), many == 0 ? "check(3) 0" : "", "check(3) " + (many + 1));
        }
        for (int wrong = 0; wrong < 6; wrong++) {
            for (int by = -1; by <= 1; by += 2) {
                StringBuilder rows = new StringBuilder(NEAR + "keep() 0\n");
                for (int i = 0; i < 6; i++) {
                    rows.append("tell(").append(right[i] + (i >= wrong ? by : 0)).append(") ").append(i + 1).append('\n');
                }
                Script.rows(rows.toString(), "check(3) " + (wrong + 1), "count(11) 0");
            }
        }
        // All twenty, and the first number of a twenty-first.
        for (int more = 0; more <= 1; more++) {
            StringBuilder rows = new StringBuilder(NEAR + "keep() 0\n");
            for (int i = 0; i < 20; i++) {
                rows.append("tell(1) ").append(2 * i + 1).append("\ntell(").append(44 + 3 * i).append(") ").append(2 * i + 2).append('\n');
            }
            Script.rows(rows.toString(), more == 0 ? "" : "tell(1) 41", "check(20) " + (more == 0 ? 0 : 41));
        }
        StringBuilder sixty = new StringBuilder("keep() 0\n");
        for (int i = 1; i <= 60; i++) {
            sixty.append("tell(0) ").append(i).append('\n');
        }
        Script.rows(sixty.toString(), "tell(0) FULL", "check(20) 41", "count(11) 0");
        Script.rows("keep() 0", "check(1) 1", "tell(0) 1", "tell(0) 2", "check(1) 0", "tell(0) 1", "tell(0) 2", "check(2) 3");
        Sentences.promise(48, "BAD; NO: there is no IMAGE.");
        Script.rows(NEAR, """
            tell(1) 1
            check(1) NO
            count(11) 0
            tell(1) 1
            check(0) BAD                   # ahead of NO
            count(11) 0
            tell(1) 1
            check(21) BAD
            check(20) NO
            keep() 0
            tell(1) 1
            tell(44) 2
            check(0) BAD
            count(11) 0
            tell(1) 1
            check(21) BAD
            check(-1) BAD
            check(MIN) BAD
            check(MAX) BAD
            count(11) 0
            tell(1) 1
            tell(44) 2
            check(1) 0
            check(20) 1
            """);
        // Beyond 999 SHOWS nothing is said of a refusal.
        Script.rows("49 x show(20) 0", "show(19) 0", "keep() 999", "tell(0) 1", "tell(0) 2", "check(1) 0", "count(9) 999");
    }

    private static void keepCall() {
        Sentences.promise(49, "AN IMAGE is kept: how many SHOWS there were.");
        Script.rows("keep() 0", "show(7) 0", "keep() 7", "show(1) 0", "back() 7", "keep() 7", "person(0, 0) 0", "back() 7", "count(0) 0");
        Script.rows("49 x show(20) 0", "show(19) 0", "keep() 999", "show(1) FULL", "back() 999", "show(1) FULL");
    }

    private static void backCall() {
        Sentences.promise(50, "All is as THE IMAGE: how many SHOWS there were in it. NO: there is none.");
        Script.rows(NEAR, """
            back() NO
            show(2) 2
            back() NO
            keep() 2
            show(3) 3
            count(10) 5
            back() 2
            count(9) 2
            count(10) 2
            back() 2
            person(7, 7) 3
            back() 2
            count(0) 3
            told(3, 0) BAD
            person(8, 7) BAD
            person(17, 3) 3
            told(3, 2) 0
            told(3, 1) 3
            hours(0, 3, 1) 0
            """);
        // Back to an empty one: whoever comes anew is as new.
        Script.rows("keep() 0", "person(0, 5) 0", "person(9, 5) BAD", "person(110, 5) 1", "set(0, 2, 50) 0", "practise(0, 1, 9) 9",
            "weapon() 0", "out(0, 1) 1", "move(0, 2, 11, 0, 10) 0", "cut(0, true) 1", "sign(1, 0) 1", "back() 0", "count(0) 0",
            "person(0, 5) 0", "person(110, 5) 1", "told(0, 2) 0", "told(1, 3) NONE", "hours(0, 1, 1) 0", "weapon() 0", "wear(0, 1) NONE",
            "move(0, 2, 11, 0, 10) 0", "of(0, 7) 0", "unready(0) 1", "count(2) 0");
    }

    private static void countCall() {
        Sentences.promise(51, """
            How many: 0 PEOPLE, 1 MOVES, 2 CUT ones, 3 BLOWS (of all KINDS under it), 4 SIGNS, 5 TEXTS, 6 told ones, 7 WEAPONS, 8
            that are OUT, 9 SHOWS, 10 rows of THE LOG, 11 numbers that wait, 12 bytes of THE TAPE, 13 z. BAD.""");
        Script.rows("""
            person(33, 9) 0
            person(34, 9) 1
            person(113, 9) 2
            'late 0' 0
            'bar 0' 1
            'late 1)' fault 6
            'late 0' 2
            move(0, 0, 11, 33, 10) 0
            move(0, 1, 21, 33, 10) 1
            move(0, 2, 31, 33, 12) 2
            move(0, 3, 41, 33, 20) 3
            move(0, 4, 51, 33, 20) 4
            move(0, 5, 61, 33, 10) 5
            cut(3, true) 1
            cut(0, true) 1
            sign(0, 1) 1
            sign(0, 1) 2
            choose(5) 1
            weapon() 0
            weapon() 1
            weapon() 2
            out(2, 1) 1
            out(0, 2) 1
            show(4) 4
            tell(9) 1
            tell(9) 2
            tell(9) 3
            tape 'late 77' 7
            count(0) 3
            count(1) 6
            count(2) 2
            count(3) 3                     # CUT ones, too
            count(4) 2
            count(5) 3
            count(6) 1
            count(7) 3
            count(8) 2
            count(9) 4
            count(10) 4
            count(11) 3
            count(12) 7
            seed(-5) Z
            count(13) -5
            count(-1) BAD
            count(14) BAD
            count(MIN) BAD
            count(MAX) BAD
            """.replace("seed(-5) Z", "seed(-5) " + drawn(12)));
    }

    private static int drawn(int times) {
        int z = 1;
        for (int i = 0; i < times; i++) {
            z = z * 1103515245 + 12345;
        }
        return z;
    }
}
