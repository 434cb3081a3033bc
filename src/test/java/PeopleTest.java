/** Promises 1 to 4, 9, 10: a new object, people, what is told of them, where they are. */
public final class PeopleTest {
    public static void main(String[] args) {
        newObject();
        people();
        told();
        set();
        wet();
        where();
        Due.end();
    }

    private static void newObject() {
        StageFights x = new StageFights();
        for (int what = 0; what <= 12; what++) {
            Due.is("new: count(" + what + ")", x.count(what), 0);
        }
        Due.is("new: count(13)", x.count(13), 1);
        Due.is("new: told(0, 0)", x.told(0, 0), Due.BAD);
        Due.is("new: breach(0)", x.breach(0), Due.NONE);
        Due.is("new: may()", x.may(), 0);
        Due.is("new: story()", x.story(), 0);
        Due.is("new: back()", x.back(), Due.NO);
        Due.is("new: led()", x.led(), Due.NONE);
        Due.is("new: shifts(-1)", x.shifts(-1), 0);
        Due.is("new: shift()", x.shift(), 0);
        Due.is("new: show(1)", x.show(1), 0);
        Due.is("new: restAll()", x.restAll(), 0);
        for (int sheet = 0; sheet < 4; sheet++) {
            Due.is("new: mark", x.mark(sheet, 0, 0), Due.NOTHING);
        }
        for (int slot = 0; slot < 5; slot++) {
            Due.is("new: item", x.item(slot, 0), Due.NOTHING);
        }
    }

    private static void people() {
        StageFights x = new StageFights();
        int[] wrong = {-1, 8, 9, 18, 19, 118, 119, 120, 127, Integer.MIN_VALUE, Integer.MAX_VALUE, -10, -7};
        for (int place : wrong) {
            Due.refused("person(" + place + ", 3)", x, () -> x.person(place, 3), Due.BAD);
        }
        Due.refused("person(0, -1)", x, () -> x.person(0, -1), Due.BAD);
        Due.refused("person(0, 10)", x, () -> x.person(0, 10), Due.BAD);
        int[] places = {0, 7, 110, 117, 55, 55, 10, 107};
        for (int i = 0; i < 8; i++) {
            Due.is("person", x.person(places[i], i + 1), i);
        }
        Due.refused("a ninth", x, () -> x.person(0, 0), Due.FULL);
        Due.is("BAD ahead of FULL", x.person(0, 10), Due.BAD);
        for (int i = 0; i < 8; i++) {
            Due.is("told place", x.told(i, 0), places[i]);
            Due.is("told skill", x.told(i, 1), i + 1);
            Due.is("told tired", x.told(i, 2), 0);
            Due.is("told weapon", x.told(i, 3), Due.NONE);
        }
        Due.is("count(0)", x.count(0), 8);
    }

    private static void told() {
        StageFights x = new StageFights();
        int[] late = {3, 2, 2, 2, 1, 1, 1, 0};
        for (int skill = 0; skill < 8; skill++) {
            x.person(0, skill);
        }
        for (int i = 1; i < 8; i++) {
            Due.is("late by skill " + i, x.told(i, 4), late[i]);
        }
        Due.is("late by skill 0", x.told(0, 4), 3);
        x.wet(1);
        Due.is("late, held", x.told(0, 4), 3);
        Due.is("late, wet", x.told(7, 4), 1);
        x.set(7, 2, 24);
        Due.is("late, tired 24", x.told(7, 4), 1);
        x.set(7, 2, 25);
        Due.is("late, tired 25", x.told(7, 4), 2);
        x.set(7, 2, 99);
        Due.is("late, tired 99, held", x.told(7, 4), 3);
        x.wet(0);
        x.set(7, 2, 50);
        Due.is("late, tired 50", x.told(7, 4), 2);
        Due.is("told(8, 0)", x.told(8, 0), Due.BAD);
        Due.is("told(-1, 0)", x.told(-1, 0), Due.BAD);
        Due.is("told(0, -1)", x.told(0, -1), Due.BAD);
        Due.is("told(0, 5)", x.told(0, 5), Due.BAD);
    }

    private static void set() {
        StageFights x = new StageFights();
        x.person(0, 4);
        x.person(1, 5);
        Due.is("set skill", x.set(0, 1, 9), 4);
        Due.is("set skill again", x.set(0, 1, 0), 9);
        Due.is("set tired", x.set(1, 2, 99), 0);
        Due.is("set tired again", x.set(1, 2, 0), 99);
        Due.is("skill of the other one", x.told(1, 1), 5);
        int[][] wrong = {{0, 0, 1}, {0, 3, 1}, {0, 1, 10}, {0, 1, -1}, {0, 2, 100}, {0, 2, -1}, {2, 1, 1}, {-1, 2, 1}};
        for (int[] w : wrong) {
            Due.refused("set " + w[0] + " " + w[1] + " " + w[2], x, () -> x.set(w[0], w[1], w[2]), Due.BAD);
        }
    }

    private static void wet() {
        StageFights x = new StageFights();
        x.person(0, 9);
        Due.is("wet(1)", x.wet(1), 0);
        Due.is("wet(0)", x.wet(0), 1);
        Due.is("wet(0)", x.wet(0), 0);
        Due.refused("wet(2)", x, () -> x.wet(2), Due.BAD);
        Due.refused("wet(-1)", x, () -> x.wet(-1), Due.BAD);
    }

    private static void where() {
        StageFights x = new StageFights();
        x.person(117, 9);
        x.person(0, 9);
        // Told out of order; the later way begins where the earlier one ends.
        Due.is("fall", x.move(0, 5, 204, 3, 10), 0);
        Due.is("step at 0", x.move(0, 1, 1, 50, 10), 1);
        Due.is("step of 3", x.move(0, 1, 103, 107, 10), 2);
        Due.is("blow goes nowhere", x.move(0, 2, 304, 77, 10), 3);
        Due.is("move goes nowhere", x.move(0, 0, 404, 77, 10), 4);
        int[][] due = {
            {-9, 117}, {-1, 117}, {0, 50}, {9, 50}, {10, 62}, {11, 84}, {12, 107}, {19, 107},
            {20, 86}, {21, 55}, {22, 34}, {23, 3}, {24, 3}, {30, 3}, {33, 3}, {43, 3}, {99, 3}};
        for (int[] d : due) {
            Due.is("where(0, " + d[0] + ")", x.where(0, d[0]), d[1]);
        }
        x.cut(2, true);
        Due.is("where(0, 11), step cut", x.where(0, 11), 50);
        Due.is("where(0, 20), step cut", x.where(0, 20), 40);
        Due.is("where(0, 21), step cut", x.where(0, 21), 31);
        Due.is("where(1, 50)", x.where(1, 50), 0);
        Due.is("where(0, -10)", x.where(0, -10), Due.BAD);
        Due.is("where(0, 100)", x.where(0, 100), Due.BAD);
        Due.is("where(2, 0)", x.where(2, 0), Due.BAD);
        Due.is("where(-1, 0)", x.where(-1, 0), Due.BAD);
    }
}
