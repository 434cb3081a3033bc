/** Promises 25 to 29: told moves, understudies, shifts. */
public final class UnderstudyTest {
    public static void main(String[] args) {
        chooseAndClear();
        understudy();
        understudyOfTheOther();
        shifts();
        firstOfSeveral();
        lastBeat();
        cutOnesInTheWay();
        threeOnly();
        farthest();
        Due.end();
    }

    private static void chooseAndClear() {
        StageFights x = new StageFights();
        x.person(0, 9);
        x.person(110, 9);
        for (int i = 0; i < 8; i++) {
            x.move(0, i % 6, 10 * i + 1, 0, 10);
        }
        Due.is("clear, none told", x.clear(), 0);
        Due.refused("choose(8)", x, () -> x.choose(8), Due.BAD);
        Due.refused("choose(-1)", x, () -> x.choose(-1), Due.BAD);
        for (int i = 0; i < 6; i++) {
            Due.is("choose " + i, x.choose(7 - i), i + 1);
        }
        Due.refused("it is told", x, () -> x.choose(7), Due.NO);
        Due.refused("a seventh", x, () -> x.choose(0), Due.FULL);
        Due.is("BAD ahead of FULL", x.choose(8), Due.BAD);
        Due.is("count(6)", x.count(6), 6);
        Due.is("clear", x.clear(), 6);
        Due.is("count(6)", x.count(6), 0);
        Due.is("choose again", x.choose(7), 1);
    }

    /** One comes near at beat 11: a blow at 10 breaks if whose it is may be late by 1, a feint at 9 if by 2. */
    private static StageFights comes() {
        StageFights x = new StageFights();
        x.person(33, 9);
        x.person(73, 9);
        x.move(0, 2, 101, 0, 12);
        x.move(1, 1, 111, 43, 0);
        x.move(0, 3, 51, 0, 12);
        x.move(0, 4, 91, 0, 12);
        return x;
    }

    private static void understudy() {
        StageFights x = comes();
        Due.is("no cut is needed", x.understudy(0, 9, 0), 0);
        Due.is("its worth", x.understudy(0, 9, 1), 0);
        Due.is("none told", x.understudy(0, 6, 0), Due.NONE);
        x.choose(1);
        x.choose(3);
        Due.is("the wrong ones told", x.understudy(0, 6, 0), Due.NONE);
        Due.is("the wrong ones told, worth", x.understudy(0, 6, 1), Due.NONE);
        x.choose(0);
        x.choose(2);
        Due.is("skill 9", x.understudy(0, 9, 0), 0);
        Due.is("skill 7", x.understudy(0, 7, 0), 0);
        Due.is("skill 6", x.understudy(0, 6, 0), 4);
        Due.is("skill 6, worth", x.understudy(0, 6, 1), 5);
        Due.is("skill 4", x.understudy(0, 4, 0), 4);
        Due.is("skill 3", x.understudy(0, 3, 0), 6);
        Due.is("skill 3, worth", x.understudy(0, 3, 1), 7);
        Due.is("nothing is cut by it", x.count(2), 0);
        Due.is("no skill is set by it", x.told(0, 1), 9);
        x.cut(0, true);
        Due.is("skill 6, the blow is cut", x.understudy(0, 6, 0), 0);
        Due.is("skill 3, the blow is cut", x.understudy(0, 3, 0), 2);
        Due.is("skill 3, the blow is cut, worth", x.understudy(0, 3, 1), 2);
        x.cut(0, false);
        x.cut(1, true);
        Due.is("nobody comes", x.understudy(0, 0, 0), 0);
        int[][] wrong = {{2, 9, 0}, {-1, 9, 0}, {0, 10, 0}, {0, -1, 0}, {0, 9, 2}, {0, 9, -1}};
        for (int[] w : wrong) {
            Due.refused("understudy " + java.util.Arrays.toString(w), x, () -> x.understudy(w[0], w[1], w[2]), Due.BAD);
        }
    }

    private static void understudyOfTheOther() {
        // Who goes away at beat 8 must not be late by 3, when the blow comes at beat 10.
        StageFights x = new StageFights();
        x.person(33, 9);
        x.person(43, 9);
        x.move(0, 2, 101, 0, 12);
        x.move(1, 1, 81, 103, 0);
        x.choose(0);
        Due.is("skill 1: late by 2", x.understudy(1, 1, 0), 0);
        Due.is("skill 0: late by 3", x.understudy(1, 0, 0), 1);
        Due.text(x, "late s");
        Due.is("by the law late by 2", x.understudy(1, 2, 0), 0);
        Due.is("by the law late by 3", x.understudy(1, 3, 1), 5);
    }

    /** From x 0 to x 11 past one who strikes at x 5: near at the step's second beat alone. */
    private static StageFights passes(int stepBeat, int blowTime) {
        StageFights x = new StageFights();
        x.person(53, 9);
        x.person(3, 9);
        x.move(0, 2, blowTime, 0, 12);
        x.move(1, 1, 10 * stepBeat + 4, 113, 0);
        return x;
    }

    private static void shifts() {
        StageFights x = new StageFights();
        x.person(33, 9);
        x.person(73, 9);
        x.move(1, 1, 101, 43, 0);
        x.move(1, 1, 131, 103, 0);
        x.move(0, 2, 92, 0, 12);
        Due.is("breach", x.breach(0), 2);
        Due.is("none told", x.shifts(-1), Due.NONE);
        Due.is("none told, of the first", x.shifts(0), Due.BAD);
        Due.is("shift, none told", x.shift(), Due.NONE);
        x.choose(2);
        Due.is("the blow alone", x.shifts(-1), 4);
        Due.is("the blow alone, it", x.shifts(0), 4);
        Due.is("the blow alone, no other", x.shifts(1), Due.BAD);
        x.choose(0);
        Due.is("the blow and the step", x.shifts(-1), 1);
        Due.is("the blow", x.shifts(0), 0);
        Due.is("the step", x.shifts(1), 1);
        Due.is("no third", x.shifts(2), Due.BAD);
        Due.is("shifts(-2)", x.shifts(-2), Due.BAD);
        Due.is("shifts(3)", x.shifts(3), Due.BAD);
        Due.is("nothing is moved by it", x.of(0, 2), 10);
        Due.is("shift", x.shift(), 1);
        Due.is("the step is moved", x.of(0, 2), 11);
        Due.is("the blow is not", x.of(2, 2), 9);
        Due.is("no breach", x.breach(0), Due.NONE);
        Due.is("they are told still", x.count(6), 2);
        Due.is("nothing to do", x.shifts(-1), 0);
        Due.is("nothing to do, shift", x.shift(), 0);
        x.clear();
        Due.is("none told, no breach", x.shifts(-1), 0);
        Due.is("none told, no breach, shift", x.shift(), 0);
    }

    private static void firstOfSeveral() {
        StageFights x = passes(10, 111);
        x.choose(0);
        x.choose(1);
        Due.is("sum", x.shifts(-1), 1);
        Due.is("the blow, told first, stays", x.shifts(0), 0);
        Due.is("the step goes", x.shifts(1), 1);
        x.clear();
        x.choose(1);
        x.choose(0);
        Due.is("sum", x.shifts(-1), 1);
        Due.is("the step, told first, stays", x.shifts(0), 0);
        Due.is("the blow goes", x.shifts(1), 1);
        Due.is("shift", x.shift(), 1);
        Due.is("the blow is moved", x.of(0, 2), 12);
    }

    private static void lastBeat() {
        StageFights x = passes(89, 901);
        x.choose(0);
        Due.is("no blow behind beat 90", x.shifts(-1), Due.NONE);
        Due.refused("shift", x, () -> x.shift(), Due.NONE);
        x.choose(1);
        Due.is("the step can", x.shifts(-1), 1);
        Due.is("by 1", x.shifts(1), 1);
        x.shift();
        Due.is("to beat 90", x.of(1, 2), 90);
        StageFights y = passes(90, 902);
        y.choose(0);
        y.choose(1);
        Due.is("neither can", y.shifts(-1), Due.NONE);
        Due.is("of the first", y.shifts(0), Due.NONE);
    }

    private static void cutOnesInTheWay() {
        StageFights x = passes(10, 111);
        x.move(1, 0, 141, 0, 0);
        x.cut(2, true);
        x.choose(1);
        Due.is("past the cut one", x.shifts(-1), 5);
        x.choose(2);
        Due.is("together with it", x.shifts(-1), 2);
        Due.is("the step", x.shifts(0), 1);
        Due.is("the cut one", x.shifts(1), 1);
        x.shift();
        Due.is("the cut one is moved", x.of(2, 2), 15);
        Due.is("and is cut still", x.of(2, 7), 1);
    }

    /** One comes at the beat of the blow, and goes away so many beats later. */
    private static StageFights stays(int beats) {
        StageFights x = new StageFights();
        x.person(33, 9);
        x.person(73, 9);
        x.move(0, 2, 101, 0, 12);
        x.move(1, 1, 101, 43, 0);
        x.move(1, 1, 10 * (10 + beats) + 1, 103, 0);
        x.choose(0);
        return x;
    }

    private static void farthest() {
        StageFights x = stays(5);
        Due.is("by 5", x.shifts(-1), 5);
        Due.is("shift by 5", x.shift(), 5);
        Due.is("the first told one is moved", x.of(0, 2), 15);
        Due.is("not by 6", stays(6).shifts(-1), Due.NONE);
        // One stands amid three others from beat 10 up to beat 14; they all must wait for beat 15.
        StageFights y = new StageFights();
        y.person(30, 9);
        y.person(32, 9);
        y.person(50, 9);
        y.person(117, 9);
        for (int i = 0; i < 3; i++) {
            y.move(i, 2, 101, 0, 30);
        }
        y.move(3, 1, 101, 41, 0);
        y.move(3, 1, 151, 117, 0);
        y.choose(2);
        y.choose(0);
        Due.is("two of three", y.shifts(-1), Due.NONE);
        y.choose(1);
        Due.is("all three by 5", y.shifts(-1), 15);
        for (int i = 0; i < 3; i++) {
            Due.is("shifts(" + i + ")", y.shifts(i), 5);
        }
        y.cut(1, true);
        Due.is("the cut one stays", y.shifts(2), 0);
        Due.is("both others go", y.shifts(-1), 10);
    }

    private static void threeOnly() {
        StageFights x = passes(10, 111);
        x.move(0, 0, 11, 0, 10);
        x.move(0, 0, 21, 0, 10);
        x.move(0, 0, 31, 0, 10);
        x.choose(2);
        x.choose(3);
        x.choose(4);
        x.choose(1);
        Due.is("the fourth does not go", x.shifts(-1), Due.NONE);
        Due.is("shifts(3)", x.shifts(3), Due.BAD);
        x.clear();
        x.choose(2);
        x.choose(3);
        x.choose(1);
        x.choose(0);
        Due.is("the third goes", x.shifts(-1), 1);
        int[] by = {0, 0, 1};
        for (int i = 0; i < 3; i++) {
            Due.is("shifts(" + i + ")", x.shifts(i), by[i]);
        }
        // The step needs beat 14: of (1, 1, 1) and (0, 2, 1), the latter leaping over a move, the least first is the latter.
        StageFights y = passes(10, 111);
        y.move(1, 0, 141, 0, 0);
        y.move(1, 0, 151, 0, 0);
        y.choose(3);
        y.choose(2);
        y.choose(1);
        Due.is("all three go", y.shifts(-1), 3);
        Due.is("shift", y.shift(), 3);
        int[] beats = {11, 11, 16, 15};
        for (int i = 0; i < 4; i++) {
            Due.is("beat of " + i, y.of(i, 2), beats[i]);
        }
    }
}
