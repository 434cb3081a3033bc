/** Each refusal of each call, on an object that has something of all, and on one that is full: 'Terms' 0. */
final class RefusalEdges {
    private RefusalEdges() {
    }

    static void all() {
        Sentences.terms(0, """
            A call that is refused answers one of BAD, NO, FULL, or a FINDING, of several the one that stands first with it, and
            changes nothing (but the tape and the numbers that wait, where told).""");
        Script.rows(BUSY, peopleAndMoves(4, 6), lawAndTold(4, 6, 4), weaponsAndShows(4, 2), sheetsAndSlots(6), ROWS);
        Script.rows(full(), FULL, peopleAndMoves(8, 20), lawAndTold(8, 20, 14), weaponsAndShows(8, 6));
        Script.rows(full(), FULL_ROWS);
        Script.rows(BUSY, "text() 4", "tape 'bar k==2' 8", "text() fault 6", "count(12) 0", "tell(7) 5", "check(0) BAD", "count(11) 0");
    }

    /** Four people, six moves, four texts, two weapons, three shows, an image of them, rows, slots, a tape, four numbers. */
    private static final String BUSY = """
        person(33, 8) 0
        person(43, 5) 1
        person(73, 2) 2
        move(0, 2, 102, 33, 13) 0
        move(1, 1, 204, 77, 0) 1
        move(2, 3, 303, 0, 11) 2
        move(0, 5, 401, 30, 20) 3
        move(1, 4, 501, 0, 22) 4
        cut(2, true) 1
        sign(1, 9) 1
        sign(2, 49) 2
        wet(1) 0
        'late 0' 0
        'bar b>45' 1
        'hours n*2+1' 2
        practise(0, 1, 17) 17
        practise(2, 0, 5) 5
        choose(1) 1
        choose(0) 2
        weapon() 0
        weapon() 1
        out(1, 0) 1
        seed(77) 1
        show(3) 6
        keep() 3
        person(117, 9) 3
        set(0, 2, 60) 15
        move(3, 2, 601, 117, 1) 5
        'late (9-s)/3+w' 3
        sheet(0, 0, 3) 3
        mark(0, 1, -5) 0
        mark(0, 2, 7) 0
        sheet(1, 1, 2) 2
        mark(1, 0, 9) 0
        sheet(2, 0, 0) 0
        lay(0, 1, 4) 0
        lay(1, 2, 0) 0
        lay(2, 3, 12345) 0
        tape 'bar k=2' 7
        tell(2) 1
        tell(32) 2
        tell(2) 3
        tell(40) 4
        """;

    /** Everything there is room for. */
    private static String full() {
        StringBuilder rows = new StringBuilder();
        int[] places = {0, 30, 60, 90, 3, 33, 63, 93};
        for (int i = 0; i < 8; i++) {
            rows.append("person(").append(places[i]).append(", 9) ").append(i).append('\n');
        }
        for (int i = 0; i < 20; i++) {
            rows.append("move(").append(i % 8).append(", ").append(i % 6).append(", ").append(40 * i + 4).append(", ");
            rows.append(places[i % 8]).append(", ").append(10 * ((i + 1) % 8) + (i == 2 ? 9 : 0)).append(") ").append(i).append('\n');
            rows.append("sign(").append(i % 8).append(", ").append(4 * i).append(") ").append(i + 1).append('\n');
        }
        for (int i = 0; i < 14; i++) {
            rows.append(i % 3 == 0 ? "'late 0' " : i % 3 == 1 ? "'bar 0' " : "'hours n' ").append(i).append('\n');
        }
        for (int i = 0; i < 6; i++) {
            rows.append("weapon() ").append(i).append("\nout(").append(i).append(", ").append(7 - i).append(") 1\n");
            rows.append("choose(").append(3 * i + 2).append(") ").append(i + 1).append('\n');
        }
        rows.append("49 x show(20) 140\nshow(19) 133\nkeep() 999\n");
        for (int i = 0; i < 4; i++) {
            rows.append("sheet(").append(i).append(", ").append(i % 2).append(", 24) 24\n");
        }
        rows.append("lay(0, 1, 3) 0\nlay(1, 2, 3) 0\nlay(2, 3, -1) 0\nlay(3, 1, 4) 0\nlay(4, 2, 0) 0\n");
        for (int i = 0; i < 60; i++) {
            rows.append("tell(").append(i % 2 == 0 ? 7 : 792).append(") ").append(i + 1).append('\n');
        }
        return rows.append("tape '").append("late 1+2+3 +".repeat(8)).append("' 96\n").toString();
    }

    private static final String FULL = """
        count(0) 8
        count(1) 20
        count(4) 20
        count(5) 14
        count(6) 6
        count(7) 6
        count(8) 6
        count(9) 999
        count(10) 30
        count(11) 60
        count(12) 96
        person(0, 0) FULL
        move(0, 0, 904, 0, 10) FULL
        move(0, 0, 4, 0, 10) FULL
        sign(0, 0) FULL
        feed(0, 0, 0) FULL
        choose(0) FULL
        choose(2) NO
        weapon() FULL
        show(1) FULL
        tell(0) FULL
        """;

    private static final String FULL_ROWS = """
        copy(0, 0, 2, 1, 24) INDEX
        copy(0, 1, 2, 0, 24) INDEX
        copy(0, 0, 2, 0, 25) INDEX
        mark(0, 24, 1) INDEX
        item(1, 24) INDEX
        sheet(0, 0, 25) BAD
        out(0, 6) NO
        out(0, 0) NO
        out(5, 7) NO
        trim(97) BAD
        text() fault 12
        count(12) 0
        'late 0' FULL
        count(12) 0
        check(0) BAD
        count(11) 0
        count(5) 14
        """;

    private static String peopleAndMoves(int people, int moves) {
        return """
            person(-1, 0) BAD
            person(8, 9) BAD
            person(118, 9) BAD
            person(120, 9) BAD
            person(0, -1) BAD
            person(0, 10) BAD
            told(-1, 0) BAD
            told(PEOPLE, 0) BAD
            told(0, -1) BAD
            told(0, 5) BAD
            set(-1, 1, 1) BAD
            set(PEOPLE, 1, 1) BAD
            set(0, 0, 1) BAD
            set(0, 3, 1) BAD
            set(0, 1, -1) BAD
            set(0, 1, 10) BAD
            set(0, 2, -1) BAD
            set(0, 2, 100) BAD
            move(-1, 0, 901, 0, 10) BAD
            move(PEOPLE, 0, 901, 0, 10) BAD
            move(0, -1, 901, 0, 10) BAD
            move(0, 6, 901, 0, 10) BAD
            move(0, 0, 900, 0, 10) BAD
            move(0, 0, 905, 0, 10) BAD
            move(0, 0, 911, 0, 10) BAD
            move(0, 0, -1, 0, 10) BAD
            move(0, 0, 901, -1, 10) BAD
            move(0, 0, 901, 8, 10) BAD
            move(0, 0, 901, 120, 10) BAD
            move(0, 0, 901, 0, -1) BAD
            move(0, 0, 901, 0, 9) BAD
            move(0, 0, 901, 0, PEOPLE0) BAD
            of(-1, 0) BAD
            of(MOVES, 0) BAD
            of(0, -1) BAD
            of(0, 13) BAD
            as(-1, 0) BAD
            as(MOVES, 0) BAD
            as(0, -1) BAD
            as(0, 6) BAD
            as(1, 5) KIND
            cut(-1, true) BAD
            cut(MOVES, true) BAD
            wet(-1) BAD
            wet(2) BAD
            where(-1, 0) BAD
            where(PEOPLE, 0) BAD
            where(0, -10) BAD
            where(0, 100) BAD
            gap(-1, 0) BAD
            gap(MOVES, 0) BAD
            gap(4, -1) BAD
            gap(4, PEOPLE) BAD
            gap(1, 0) KIND
            keeps(-1) BAD
            keeps(MOVES) BAD
            keeps(1) KIND
            breach(-1) BAD
            breach(2) BAD
            sign(-1, 0) BAD
            sign(PEOPLE, 0) BAD
            sign(0, -1) BAD
            sign(0, 100) BAD
            unready(-2) BAD
            unready(MOVES) BAD
            unready(1) KIND
            seen(-1) BAD
            seen(MOVES) BAD
            seen(1) KIND
            """.replace("PEOPLE0", Integer.toString(10 * people)).replace("PEOPLE", Integer.toString(people))
            .replace("MOVES", Integer.toString(moves));
    }

    private static String lawAndTold(int people, int moves, int texts) {
        return """
            trim(-1) BAD
            trim(97) BAD
            textTold(-1, 0) BAD
            textTold(TEXTS, 0) BAD
            textTold(0, -1) BAD
            textTold(0, 2) BAD
            hours(-1, 0, 0) BAD
            hours(0, PEOPLE, 0) BAD
            hours(1, 1, 0) BAD
            hours(0, 1, -1) BAD
            hours(0, 1, 2) BAD
            practise(-1, 0, 1) BAD
            practise(0, PEOPLE, 1) BAD
            practise(1, 1, 1) BAD
            practise(0, 1, 0) BAD
            practise(0, 1, 100) BAD
            choose(-1) BAD
            choose(MOVES) BAD
            understudy(-1, 0, 0) BAD
            understudy(PEOPLE, 0, 0) BAD
            understudy(0, -1, 0) BAD
            understudy(0, 10, 0) BAD
            understudy(0, 0, -1) BAD
            understudy(0, 0, 2) BAD
            shifts(-2) BAD
            shifts(3) BAD
            """.replace("PEOPLE", Integer.toString(people)).replace("MOVES", Integer.toString(moves))
            .replace("TEXTS", Integer.toString(texts));
    }

    private static String weaponsAndShows(int people, int weapons) {
        return """
            out(-1, 2) BAD
            out(WEAPONS, 2) BAD
            out(0, -1) BAD
            out(0, PEOPLE) BAD
            in(-1) BAD
            in(WEAPONS) BAD
            wear(-1, 0) BAD
            wear(WEAPONS, 0) BAD
            wear(0, -1) BAD
            wear(0, 3) BAD
            show(0) BAD
            show(21) BAD
            log(-1, 0) BAD
            log(0, -1) BAD
            log(0, 3) BAD
            count(-1) BAD
            count(14) BAD
            """.replace("PEOPLE", Integer.toString(people)).replace("WEAPONS", Integer.toString(weapons));
    }

    private static String sheetsAndSlots(int moves) {
        return """
            sheet(-1, 0, 1) BAD
            sheet(4, 0, 1) BAD
            sheet(0, -2, 1) BAD
            sheet(0, 2, 1) BAD
            sheet(0, 0, 25) BAD
            sheet(0, 0, -1) SIZE
            mark(-1, 0, 1) BAD
            mark(4, 0, 1) BAD
            mark(3, 0, 1) NOTHING
            mark(0, -1, 1) INDEX
            mark(0, 3, 1) INDEX
            mark(2, 0, 1) INDEX
            cuts(-1) BAD
            cuts(4) BAD
            cuts(3) NOTHING
            copy(-1, 0, 0, 0, 1) BAD
            copy(0, 0, 4, 0, 1) BAD
            copy(3, 0, 0, 0, 1) NOTHING
            copy(0, 0, 3, 0, 1) NOTHING
            copy(0, 0, 1, 0, 1) KIND
            copy(0, 0, 0, 1, 3) INDEX
            copy(0, 1, 0, 0, 3) INDEX
            copy(0, 0, 2, 0, 1) INDEX
            copy(0, 1, 0, 0, -1) INDEX
            lay(-1, 0, 0) BAD
            lay(5, 0, 0) BAD
            lay(0, -1, 0) BAD
            lay(0, 4, 0) BAD
            lay(0, 1, -1) BAD
            lay(0, 1, MOVES) BAD
            lay(1, 2, -1) BAD
            lay(1, 2, 4) BAD
            lay(1, 2, 3) NOTHING
            ask(-1, 0) BAD
            ask(5, 0) BAD
            ask(0, 6) BAD
            ask(3, 0) NOTHING
            ask(1, 0) KIND
            ask(0, 3) KIND
            item(-1, 0) BAD
            item(5, 0) BAD
            item(3, 0) NOTHING
            item(0, 0) KIND
            item(2, 0) KIND
            item(1, 3) INDEX
            rest(-1, 1) BAD
            rest(5, 1) BAD
            rest(3, 1) NOTHING
            rest(1, 1) KIND
            rest(2, 0) NO
            """.replace("MOVES", Integer.toString(moves));
    }

    /** On the busy one: what is refused for what has been done, at last what uses up the tape and the numbers that wait. */
    private static final String ROWS = """
        move(0, 0, 101, 0, 10) NO
        move(0, 0, 84, 0, 10) NO
        move(2, 0, 303, 0, 10) NO          # the cut one, too
        gap(0, 0) NO
        choose(1) NO
        out(1, 1) NO
        out(0, 0) NO
        in(0) NO
        trim(8) BAD
        shifts(2) BAD
        back() 3
        check(21) BAD
        count(11) 0
        check(1) 1
        count(12) 7
        """;
}
