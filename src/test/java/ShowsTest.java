/** Promises 34 to 38: shows that are drawn, rests, the log, what leads. */
public final class ShowsTest {
    public static void main(String[] args) {
        seed();
        nearMisses();
        drawn();
        drawnAheadOfAll();
        tired();
        full();
        log();
        led();
        Due.end();
    }

    private static void seed() {
        StageFights x = new StageFights();
        Due.is("seed", x.seed(7), 1);
        Due.is("seed again", x.seed(Integer.MIN_VALUE), 7);
        Due.is("count(13)", x.count(13), Integer.MIN_VALUE);
        Due.is("seed again", x.seed(1), Integer.MIN_VALUE);
        x.show(1);
        Due.is("nobody, nothing drawn", x.count(13), 1);
        x.person(0, 9);
        x.person(110, 9);
        x.show(1);
        int z = 1103515245 + 12345;
        Due.is("two drawn", x.count(13), z * 1103515245 + 12345);
    }

    private static void nearMisses() {
        // 0 at 33, 1 at 73, 2 at 37, 3 at 34; nobody is ever late.
        StageFights x = new StageFights();
        x.person(33, 9);
        x.person(73, 9);
        x.person(37, 9);
        x.person(34, 9);
        Due.text(x, "late 0");
        x.move(0, 2, 102, 0, 12);
        Due.is("too near to one", x.show(1), 1);
        Due.is("to 3", x.log(0, 2), 3);
        x.move(0, 3, 202, 0, 13);
        Due.is("and another one, too near to two", x.show(1), 3);
        int[][] due = {{0, 0, 3}, {1, 0, 3}, {1, 1, 2}, {1, 1, 3}};
        for (int i = 0; i < due.length; i++) {
            for (int what = 0; what <= 2; what++) {
                Due.is("log(" + i + ", " + what + ")", x.log(i, what), due[i][what]);
            }
        }
        x.cut(1, true);
        Due.is("cut", x.show(2), 2);
        x.move(3, 1, 112, 117, 0);
        Due.is("gone at the second beat, near at the first", x.show(1), 1);
        x.move(3, 1, 101, 117, 0);
        Due.is("gone at the first", x.show(1), 0);
        x.move(1, 1, 111, 33, 0);
        Due.is("the aim comes at the second beat", x.show(1), 1);
        Due.is("it is the aim", x.log(x.count(10) - 1, 2), 1);
        StageFights y = new StageFights();
        y.person(33, 9);
        y.person(34, 9);
        y.move(1, 2, 101, 0, 2);
        Due.is("too near to person 0", y.show(1), 1);
        Due.is("to person 0", y.log(0, 2), 0);
        Due.is("show(0)", x.show(0), Due.BAD);
        Due.is("show(21)", x.show(21), Due.BAD);
        Due.is("show(-1)", x.show(-1), Due.BAD);
    }

    /** Who goes away at beat 8 is near at beat 10, if late by 3; who strikes is never late. */
    private static void drawn() {
        StageFights x = new StageFights();
        x.person(33, 9);
        x.person(43, 0);
        x.move(0, 2, 101, 0, 12);
        x.move(1, 1, 81, 103, 0);
        int z = 12345;
        x.seed(z);
        int rows = 0;
        for (int i = 0; i < 100; i++) {
            z = z * 1103515245 + 12345;
            z = z * 1103515245 + 12345;
            int miss = (z >>> 8) % 4 == 3 ? 1 : 0;
            x.set(0, 2, 0);
            x.set(1, 2, 0);
            Due.is("show " + i, x.show(1), miss);
            Due.is("z of show " + i, x.count(13), z);
            rows = Math.min(30, rows + miss);
            Due.is("rows", x.count(10), rows);
        }
        // Who strikes is late or not; one comes two beats behind the blow.
        StageFights y = new StageFights();
        y.person(33, 0);
        y.person(73, 9);
        y.move(0, 2, 101, 0, 12);
        y.move(1, 1, 121, 33, 0);
        z = 1;
        for (int i = 0; i < 100; i++) {
            z = z * 1103515245 + 12345;
            int miss = (z >>> 8) % 4 >= 2 ? 1 : 0;
            z = z * 1103515245 + 12345;
            y.set(0, 2, 0);
            y.set(1, 2, 0);
            Due.is("who strikes is late, show " + i, y.show(1), miss);
        }
    }

    /** At beat 0 one goes away; late by 1, 2 or 3, they are where they begin, as at all beats below 0. */
    private static void drawnAheadOfAll() {
        StageFights x = new StageFights();
        x.person(33, 0);
        x.person(43, 9);
        Due.text(x, "late s");
        x.move(0, 2, 1, 0, 12);
        x.move(1, 1, 1, 103, 0);
        int z = 1;
        for (int i = 0; i < 60; i++) {
            z = (z * 1103515245 + 12345) * 1103515245 + 12345;
            Due.is("show " + i + " at beat 0", x.show(1), (z >>> 8) % 4 > 0 ? 1 : 0);
        }
    }

    private static void tired() {
        StageFights x = new StageFights();
        x.person(0, 9);
        x.person(110, 9);
        x.person(117, 9);
        for (int kind = 0; kind < 6; kind++) {
            x.move(0, kind, 10 * kind + 1, 0, 10);
        }
        x.move(1, 1, 1, 110, 0);
        x.show(1);
        Due.is("tired by all kinds", x.told(0, 2), 12);
        Due.is("tired by a step", x.told(1, 2), 1);
        Due.is("not tired", x.told(2, 2), 0);
        x.cut(3, true);
        x.show(1);
        Due.is("the thrust being cut", x.told(0, 2), 21);
        Due.is("of two one is tired still", x.restAll(), 1);
        Due.is("10 less", x.told(0, 2), 11);
        Due.is("0 at least", x.told(1, 2), 0);
        Due.is("one is", x.restAll(), 1);
        Due.is("1 left", x.told(0, 2), 1);
        Due.is("none is", x.restAll(), 0);
        Due.is("none is", x.restAll(), 0);
        Due.is("0 left", x.told(0, 2), 0);
        x.show(11);
        Due.is("99 at 11 shows", x.told(0, 2), 99);
        x.show(1);
        Due.is("99 at most", x.told(0, 2), 99);
        Due.is("late by it", x.told(0, 4), 3);
        Due.is("a rest", x.restAll(), 2);
        Due.is("89", x.told(0, 2), 89);
    }

    private static void full() {
        StageFights x = new StageFights();
        for (int i = 0; i < 49; i++) {
            x.show(20);
        }
        Due.is("count(9)", x.count(9), 980);
        Due.refused("1000 shows", x, () -> x.show(20), Due.FULL);
        Due.is("999 shows", x.show(19), 0);
        Due.refused("one more", x, () -> x.show(1), Due.FULL);
        Due.is("BAD ahead of FULL", x.show(21), Due.BAD);
        Due.is("count(9)", x.count(9), 999);
    }

    private static void log() {
        StageFights x = new StageFights();
        x.person(33, 9);
        x.person(34, 9);
        x.move(0, 2, 101, 0, 11);
        Due.is("an empty log", x.log(0, 0), Due.NONE);
        Due.is("too near", x.gap(0, 1), -1);
        Due.is("20 near misses", x.show(20), 20);
        Due.is("20 more, 10 of them kept", x.show(20), 20);
        Due.is("count(10)", x.count(10), 30);
        for (int i = 0; i < 30; i++) {
            Due.is("show of " + i, x.log(i, 0), i);
            Due.is("move of " + i, x.log(i, 1), 0);
            Due.is("person of " + i, x.log(i, 2), 1);
        }
        Due.is("log(30, 0)", x.log(30, 0), Due.NONE);
        Due.is("log(max, 0)", x.log(Integer.MAX_VALUE, 0), Due.NONE);
        Due.is("log(-1, 0)", x.log(-1, 0), Due.BAD);
        Due.is("log(0, 3)", x.log(0, 3), Due.BAD);
        Due.is("log(0, -1)", x.log(0, -1), Due.BAD);
        Due.is("BAD ahead of NONE", x.log(30, 3), Due.BAD);
    }

    private static void led() {
        StageFights x = new StageFights();
        x.person(33, 9);
        x.person(34, 9);
        Due.text(x, "late 0");
        x.move(1, 1, 1, 34, 0);
        x.move(0, 2, 101, 0, 11);
        x.move(0, 2, 111, 0, 11);
        x.move(0, 2, 121, 0, 11);
        Due.is("none", x.led(), Due.NONE);
        x.show(1);
        Due.is("of several the least", x.led(), 1);
        x.cut(1, true);
        x.show(1);
        Due.is("of two the least", x.led(), 2);
        x.cut(2, true);
        x.show(1);
        Due.is("most, the last one", x.led(), 3);
        x.cut(1, false);
        x.cut(3, true);
        x.show(20);
        Due.is("of those kept alone", x.led(), 1);
        StageFights y = new StageFights();
        y.person(33, 9);
        y.person(34, 9);
        y.move(0, 2, 101, 0, 12);
        y.move(0, 2, 111, 0, 12);
        y.show(1);
        Due.is("the first move", y.led(), 0);
        Due.is("the first move again", y.led(), 0);
        y.cut(0, true);
        y.show(1);
        Due.is("the second move", y.led(), 1);
    }
}
