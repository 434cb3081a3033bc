/** Promises 5 to 8: moves, what is told of them, their kinds, cuts. */
public final class MovesTest {
    public static void main(String[] args) {
        refusedMoves();
        beatsInCommon();
        full();
        of();
        as();
        cut();
        Due.end();
    }

    private static StageFights three() {
        StageFights x = new StageFights();
        x.person(0, 9);
        x.person(117, 9);
        x.person(55, 9);
        return x;
    }

    private static void refusedMoves() {
        StageFights x = three();
        int max = Integer.MAX_VALUE;
        int min = Integer.MIN_VALUE;
        int[][] wrong = {
            {-1, 0, 11, 0, 10}, {3, 0, 11, 0, 10}, {max, 0, 11, 0, 10}, {min, 0, 11, 0, 10},
            {0, -1, 11, 0, 10}, {0, 6, 11, 0, 10}, {0, max, 11, 0, 10}, {0, min, 11, 0, 10},
            {0, 0, 10, 0, 10}, {0, 0, 15, 0, 10}, {0, 0, 0, 0, 10}, {0, 0, -1, 0, 10}, {0, 0, -9, 0, 10},
            {0, 0, 905, 0, 10}, {0, 0, 911, 0, 10}, {0, 0, max, 0, 10}, {0, 0, min, 0, 10},
            {0, 0, 11, 8, 10}, {0, 0, 11, 120, 10}, {0, 0, 11, -1, 10}, {0, 0, 11, max, 10},
            {0, 0, 11, 0, 0}, {0, 0, 11, 0, 9}, {0, 0, 11, 0, 30}, {0, 0, 11, 0, -1}, {0, 0, 11, 0, max},
            {0, 0, 11, 0, min}, {1, 0, 11, 0, 19}, {0, 0, 11, 0, -10}};
        for (int[] w : wrong) {
            Due.refused("move" + java.util.Arrays.toString(w), x, () -> x.move(w[0], w[1], w[2], w[3], w[4]), Due.BAD);
        }
        Due.is("the least time", x.move(0, 0, 1, 0, 10), 0);
        Due.is("the greatest time", x.move(0, 5, 904, 117, 29), 1);
        Due.is("nobody but one", new StageFights().move(0, 0, 11, 0, 0), Due.BAD);
    }

    private static void beatsInCommon() {
        StageFights x = three();
        x.move(0, 2, 103, 0, 10);
        int[] meeting = {74, 84, 94, 101, 111, 112, 122, 121, 104};
        for (int time : meeting) {
            boolean meets = time / 10 + time % 10 > 10 && time / 10 < 13;
            if (meets) {
                Due.refused("move at " + time, x, () -> x.move(0, 0, time, 0, 10), Due.NO);
            }
        }
        Due.is("another one at the same beats", x.move(1, 0, 103, 0, 0), 1);
        Due.is("up to it", x.move(0, 0, 64, 0, 10), 2);
        Due.is("behind it", x.move(0, 0, 131, 0, 10), 3);
        x.cut(0, true);
        Due.refused("a cut one, too", x, () -> x.move(0, 0, 111, 0, 10), Due.NO);
        Due.is("BAD ahead of NO", x.move(0, 0, 111, 9, 10), Due.BAD);
        Due.is("count(1)", x.count(1), 4);
    }

    private static void full() {
        StageFights x = three();
        for (int i = 0; i < 20; i++) {
            Due.is("move " + i, x.move(i % 3, i % 6, 10 * i + 1, 3, i % 3 == 0 ? 10 : 0), i);
        }
        Due.refused("a further one", x, () -> x.move(0, 0, 501, 0, 10), Due.FULL);
        Due.refused("FULL ahead of NO", x, () -> x.move(0, 0, 1, 0, 10), Due.FULL);
        Due.refused("BAD ahead of FULL", x, () -> x.move(0, 0, 500, 0, 10), Due.BAD);
        Due.is("count(1)", x.count(1), 20);
        Due.is("count(3)", x.count(3), 9);
    }

    /** By kind: reach, worth, tires, wears. */
    private static final int[][] KINDS = {{0, 0, 1, 0}, {0, 1, 1, 0}, {2, 5, 2, 1}, {3, 7, 3, 2}, {1, 2, 2, 0}, {0, 4, 3, 0}};

    private static void of() {
        StageFights x = three();
        for (int kind = 0; kind < 6; kind++) {
            x.move(2, kind, 100 * kind + 53, 10 * kind + 7, 10 + kind);
        }
        for (int m = 0; m < 6; m++) {
            int[] due = {2, m, 10 * m + 5, 3, 10 * m + 7, 1, m, 0, KINDS[m][0], KINDS[m][1], KINDS[m][2], KINDS[m][3], 0};
            for (int what = 0; what <= 12; what++) {
                Due.is("of(" + m + ", " + what + ")", x.of(m, what), due[what]);
            }
        }
        x.cut(4, true);
        Due.is("cut", x.of(4, 7), 1);
        Due.is("of(0, 13)", x.of(0, 13), Due.BAD);
        Due.is("of(0, -1)", x.of(0, -1), Due.BAD);
        Due.is("of(6, 0)", x.of(6, 0), Due.BAD);
        Due.is("of(-1, 0)", x.of(-1, 0), Due.BAD);
        Due.text(x, "bar k=3");
        Due.is("not barred", x.of(2, 12), 0);
        Due.is("barred", x.of(3, 12), 1);
        x.cut(3, true);
        Due.is("barred, cut", x.of(3, 12), 1);
    }

    private static void as() {
        StageFights x = three();
        boolean[][] isOf = {
            {true, false, false, false, false, false}, {true, true, false, false, false, false},
            {true, false, true, false, false, false}, {true, false, true, true, false, false},
            {true, false, true, false, true, false}, {true, false, false, false, false, true}};
        for (int kind = 0; kind < 6; kind++) {
            x.move(0, kind, 10 * kind + 1, 0, 13 + kind);
        }
        for (int m = 0; m < 6; m++) {
            for (int kind = 0; kind < 6; kind++) {
                Due.is("as(" + m + ", " + kind + ")", x.as(m, kind), isOf[m][kind] ? 3 + m : Due.KIND);
            }
            Due.is("as(" + m + ", 6)", x.as(m, 6), Due.BAD);
            Due.is("as(" + m + ", -1)", x.as(m, -1), Due.BAD);
        }
        Due.is("as(6, 0)", x.as(6, 0), Due.BAD);
        Due.is("as(-1, 0)", x.as(-1, 0), Due.BAD);
    }

    private static void cut() {
        StageFights x = three();
        x.move(0, 1, 11, 40, 10);
        Due.is("cut no more", x.cut(0, false), 0);
        Due.is("cut", x.cut(0, true), 1);
        Due.is("where, cut", x.where(0, 50), 0);
        Due.is("cut again", x.cut(0, true), 0);
        Due.is("count(2)", x.count(2), 1);
        Due.is("cut no more", x.cut(0, false), 1);
        Due.is("where, not cut", x.where(0, 50), 40);
        Due.is("count(2)", x.count(2), 0);
        Due.refused("cut(1)", x, () -> x.cut(1, true), Due.BAD);
        Due.refused("cut(-1)", x, () -> x.cut(-1, false), Due.BAD);
    }
}
