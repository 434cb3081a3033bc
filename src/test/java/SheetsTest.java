/** Promises 39 to 46: sheets and slots. */
public final class SheetsTest {
    private static final int MAX = Integer.MAX_VALUE;
    private static final int MIN = Integer.MIN_VALUE;

    public static void main(String[] args) {
        sheet();
        mark();
        cuts();
        copy();
        copyRefused();
        lay();
        ask();
        item();
        rest();
        Due.end();
    }

    private static void sheet() {
        StageFights x = new StageFights();
        for (int n = 0; n <= 24; n += 8) {
            Due.is("sheet of " + n, x.sheet(3, n % 16 == 0 ? 0 : 1, n), n);
            Due.is("its last place", x.mark(3, n - 1, 1), n == 0 ? Due.INDEX : 0);
            Due.is("the place behind it", x.mark(3, n, 1), Due.INDEX);
        }
        int[][] wrong = {{-1, 0, 1}, {4, 0, 1}, {0, -2, 1}, {0, 2, 1}, {0, 0, 25}, {0, 1, MAX}, {4, -1, 0}, {4, 0, -1}, {0, 2, -1}};
        for (int[] w : wrong) {
            Due.is("sheet " + java.util.Arrays.toString(w), x.sheet(w[0], w[1], w[2]), Due.BAD);
        }
        Due.is("sheet(3, 0, -1)", x.sheet(3, 0, -1), Due.SIZE);
        Due.is("sheet(3, 1, min)", x.sheet(3, 1, MIN), Due.SIZE);
        Due.is("it is as it was", x.mark(3, 23, 0), 1);
        x.mark(3, 5, 1);
        x.mark(3, 0, 1);
        Due.is("anew", x.sheet(3, 1, 24), 24);
        Due.is("all 0", x.mark(3, 5, 1), 0);
        Due.is("all 0, the first", x.mark(3, 0, 1), 0);
        Due.is("missing", x.sheet(3, -1, 99), 0);
        Due.is("it is", x.mark(3, 0, 1), Due.NOTHING);
        Due.is("missing, n any", x.sheet(3, -1, MIN), 0);
    }

    private static void mark() {
        StageFights x = new StageFights();
        x.sheet(0, 0, 3);
        x.sheet(1, 1, 3);
        int[] values = {1, 127, 128, 255, 256, 300, -1, -128, -129, MIN, MAX};
        int[] bytes = {1, 127, -128, -1, 0, 44, -1, -128, 127, 0, -1};
        for (int i = 0; i < values.length; i++) {
            x.mark(0, 2, values[i]);
            Due.is("byte of " + values[i], x.mark(0, 2, 0), bytes[i]);
            x.mark(1, 2, values[i]);
            Due.is("boolean of " + values[i], x.mark(1, 2, 0), 1);
            Due.is("boolean of 0", x.mark(1, 2, 0), 0);
        }
        Due.is("mark(-1, 0, 1)", x.mark(-1, 0, 1), Due.BAD);
        Due.is("mark(4, 0, 1)", x.mark(4, 0, 1), Due.BAD);
        Due.is("mark(2, 9, 1)", x.mark(2, 9, 1), Due.NOTHING);
        int[] off = {-1, 3, MIN, MAX};
        for (int place : off) {
            Due.is("mark at " + place, x.mark(0, place, 1), Due.INDEX);
        }
    }

    private static void cuts() {
        StageFights x = new StageFights();
        x.person(0, 9);
        x.person(110, 9);
        for (int i = 0; i < 4; i++) {
            x.move(0, i, 10 * i + 1, 0, 10);
        }
        x.cut(3, true);
        x.cut(0, true);
        x.sheet(0, 0, 3);
        x.mark(0, 1, -7);
        x.mark(0, 2, 1);
        Due.is("0 no more, 1 and 2; 3 as it was", x.cuts(0), 3);
        int[] due = {0, 1, 1, 1};
        for (int i = 0; i < 4; i++) {
            Due.is("cut " + i, x.of(i, 7), due[i]);
        }
        Due.is("again", x.cuts(0), 0);
        x.sheet(1, 1, 24);
        x.mark(1, 0, 9);
        x.mark(1, 23, 9);
        Due.is("more places than moves", x.cuts(1), 4);
        Due.is("count(2)", x.count(2), 1);
        x.sheet(1, 1, 0);
        Due.is("no place", x.cuts(1), 0);
        Due.refused("missing", x, () -> x.cuts(2), Due.NOTHING);
        Due.refused("cuts(4)", x, () -> x.cuts(4), Due.BAD);
        Due.refused("cuts(-1)", x, () -> x.cuts(-1), Due.BAD);
    }

    private static StageFights rows() {
        StageFights x = new StageFights();
        x.sheet(0, 0, 5);
        x.sheet(1, 0, 4);
        x.sheet(2, 1, 5);
        for (int i = 0; i < 5; i++) {
            x.mark(0, i, 10 + i);
        }
        return x;
    }

    private static void row(String what, StageFights x, int sheet, int... due) {
        x.lay(0, 2, sheet);
        for (int i = 0; i < due.length; i++) {
            Due.is(what + ", place " + i, x.item(0, i), due[i]);
        }
        Due.is(what + ", the end", x.item(0, due.length), Due.INDEX);
    }

    private static void copy() {
        StageFights x = rows();
        Due.is("to another one", x.copy(0, 2, 1, 1, 3), 3);
        row("to another one", x, 1, 0, 12, 13, 14);
        row("from", x, 0, 10, 11, 12, 13, 14);
        Due.is("up", x.copy(0, 0, 0, 1, 4), 4);
        row("up", x, 0, 10, 10, 11, 12, 13);
        Due.is("down", x.copy(0, 1, 0, 0, 4), 4);
        row("down", x, 0, 10, 11, 12, 13, 13);
        Due.is("all", x.copy(0, 0, 0, 0, 5), 5);
        Due.is("none at the end", x.copy(0, 5, 1, 4, 0), 0);
        row("none", x, 1, 0, 12, 13, 14);
    }

    private static void copyRefused() {
        StageFights x = rows();
        int[][] bad = {{-1, 0, 0, 0, 0}, {4, 0, 0, 0, 0}, {0, 0, -1, 0, 0}, {0, 0, 4, 0, 0}, {3, -1, 4, 0, 0}};
        for (int[] b : bad) {
            Due.is("BAD " + java.util.Arrays.toString(b), x.copy(b[0], b[1], b[2], b[3], b[4]), Due.BAD);
        }
        int[][] nothing = {{3, 0, 0, 0, 0}, {0, 0, 3, 0, 0}, {3, 0, 3, 0, 0}, {3, -1, 2, -1, -1}};
        for (int[] b : nothing) {
            Due.is("NOTHING " + java.util.Arrays.toString(b), x.copy(b[0], b[1], b[2], b[3], b[4]), Due.NOTHING);
        }
        Due.is("KIND", x.copy(0, 0, 2, 0, 1), Due.KIND);
        Due.is("KIND ahead of INDEX", x.copy(2, -1, 0, 9, -1), Due.KIND);
        int[][] index = {
            {0, -1, 1, 0, 1}, {0, 0, 1, -1, 1}, {0, 0, 1, 0, -1}, {0, 5, 1, 0, 1}, {0, 0, 1, 4, 1}, {0, 3, 1, 0, 3},
            {0, 0, 1, 2, 3}, {0, 0, 1, 0, 5}, {0, 6, 1, 0, 0}, {0, 0, 1, 5, 0}, {0, -1, 1, 0, 0}, {0, 0, 1, -1, 0},
            {0, MAX, 1, 0, 1}, {0, 1, 1, 0, MAX}, {0, MAX, 1, MAX, MAX}, {0, MIN, 1, 0, 1}, {0, 0, 1, 0, MIN},
            {0, MIN, 1, MIN, MIN}, {0, 0, 1, MAX, 1}};
        for (int[] b : index) {
            Due.is("INDEX " + java.util.Arrays.toString(b), x.copy(b[0], b[1], b[2], b[3], b[4]), Due.INDEX);
        }
        row("as it was", x, 0, 10, 11, 12, 13, 14);
        row("as it was", x, 1, 0, 0, 0, 0);
    }

    private static StageFights laid() {
        StageFights x = new StageFights();
        x.person(0, 9);
        x.person(110, 9);
        for (int kind = 0; kind < 6; kind++) {
            x.move(0, kind, 10 * kind + 1, 0, 10);
        }
        x.sheet(0, 0, 2);
        x.sheet(1, 1, 2);
        x.mark(0, 1, 200);
        x.mark(1, 1, 200);
        return x;
    }

    private static void lay() {
        StageFights x = laid();
        Due.is("a number", x.lay(4, 3, MIN), 0);
        Due.is("a move", x.lay(4, 1, 5), 3);
        Due.is("a sheet", x.lay(4, 2, 1), 1);
        Due.is("a sheet again", x.lay(4, 2, 0), 2);
        Due.is("nothing", x.lay(4, 0, MAX), 2);
        Due.is("nothing again", x.lay(4, 0, MIN), 0);
        Due.is("a move again", x.lay(4, 1, 0), 0);
        int[][] wrong = {{-1, 0, 0}, {5, 3, 0}, {0, -1, 0}, {0, 4, 0}, {0, 1, 6}, {0, 1, -1}, {0, 2, 4}, {0, 2, -1}};
        for (int[] w : wrong) {
            Due.refused("lay " + java.util.Arrays.toString(w), x, () -> x.lay(w[0], w[1], w[2]), Due.BAD);
        }
        Due.refused("a missing one", x, () -> x.lay(4, 2, 2), Due.NOTHING);
        Due.is("it holds the move still", x.lay(4, 0, 0), 1);
    }

    private static void ask() {
        StageFights x = laid();
        int[] worth = {0, 1, 5, 7, 2, 4};
        int[] above = {0, 0, 0, 2, 2, 0};
        for (int k = 0; k < 6; k++) {
            x.lay(1, 1, k);
            for (int kind = 0; kind < 6; kind++) {
                boolean isOf = kind == k || kind == 0 || kind == above[k];
                Due.is("ask " + k + " as " + kind, x.ask(1, kind), isOf ? worth[k] : Due.KIND);
            }
        }
        Due.is("ask(1, 6)", x.ask(1, 6), Due.BAD);
        Due.is("ask(1, -1)", x.ask(1, -1), Due.BAD);
        Due.is("ask(5, 0)", x.ask(5, 0), Due.BAD);
        Due.is("ask(-1, 0)", x.ask(-1, 0), Due.BAD);
        Due.is("nothing", x.ask(0, 0), Due.NOTHING);
        x.lay(0, 2, 0);
        Due.is("a sheet", x.ask(0, 0), Due.KIND);
        x.lay(0, 3, 0);
        Due.is("a number", x.ask(0, 0), Due.KIND);
        StageFights y = new StageFights();
        y.keep();
        y.person(0, 9);
        y.person(110, 9);
        y.move(0, 3, 11, 0, 10);
        y.lay(2, 1, 0);
        y.back();
        Due.is("the move is gone", y.of(0, 1), Due.BAD);
        Due.is("it holds it for good", y.ask(2, 2), 7);
    }

    private static void item() {
        StageFights x = laid();
        x.lay(0, 2, 0);
        x.lay(1, 2, 1);
        Due.is("a byte", x.item(0, 1), -56);
        Due.is("a boolean", x.item(1, 1), 1);
        x.mark(0, 1, 5);
        x.sheet(1, -1, 0);
        Due.is("a row of its own", x.item(0, 1), -56);
        Due.is("a row of its own, the sheet missing", x.item(1, 1), 1);
        int[] off = {-1, 2, 23, 24, MIN, MAX};
        for (int place : off) {
            Due.is("item at " + place, x.item(0, place), Due.INDEX);
        }
        Due.is("nothing", x.item(2, 0), Due.NOTHING);
        x.lay(2, 1, 0);
        Due.is("a move", x.item(2, 99), Due.KIND);
        x.lay(2, 3, 0);
        Due.is("a number", x.item(2, 0), Due.KIND);
        Due.is("item(5, 0)", x.item(5, 0), Due.BAD);
        Due.is("item(-1, 0)", x.item(-1, 0), Due.BAD);
    }

    private static void rest() {
        StageFights x = laid();
        int[][] due = {{17, 5, 2}, {-17, 5, -2}, {17, -5, 2}, {-17, -5, -2}, {0, 3, 0}, {MIN, -1, 0}, {MIN, MAX, -1}, {5, MIN, 5}, {7, 1, 0}};
        for (int[] d : due) {
            x.lay(3, 3, d[0]);
            Due.is("rest of " + d[0] + " by " + d[1], x.rest(3, d[1]), d[2]);
            Due.is("by 0", x.rest(3, 0), Due.NO);
        }
        Due.is("nothing, ahead of NO", x.rest(0, 0), Due.NOTHING);
        x.lay(0, 1, 0);
        Due.is("a move, ahead of NO", x.rest(0, 0), Due.KIND);
        x.lay(0, 2, 0);
        Due.is("a sheet", x.rest(0, 3), Due.KIND);
        Due.is("rest(5, 1)", x.rest(5, 1), Due.BAD);
        Due.is("rest(-1, 0)", x.rest(-1, 0), Due.BAD);
    }
}
