/** Promises 47 to 51: numbers that wait, checks, images, counts. */
public final class RowsTest {
    public static void main(String[] args) {
        tell();
        check();
        checkFromTheImage();
        longest();
        images();
        whatAnImageLeavesOut();
        count();
        constants();
        Due.end();
    }

    private static void tell() {
        StageFights x = new StageFights();
        for (int i = 1; i <= 60; i++) {
            Due.is("tell " + i, x.tell(-i), i);
        }
        Due.refused("a further one", x, () -> x.tell(0), Due.FULL);
        Due.is("count(11)", x.count(11), 60);
        Due.is("check, no image", x.check(1), Due.NO);
        Due.is("none wait", x.count(11), 0);
        x.tell(1);
        Due.is("check(0)", x.check(0), Due.BAD);
        Due.is("none wait", x.count(11), 0);
        x.tell(1);
        Due.is("check(21)", x.check(21), Due.BAD);
        Due.is("none wait", x.count(11), 0);
        x.keep();
        x.tell(1);
        Due.is("check", x.check(1), 1);
        Due.is("none wait", x.count(11), 0);
        Due.is("none told", x.check(1), 1);
    }

    /** A show has one near miss, and tires by 2. */
    private static StageFights near() {
        StageFights x = new StageFights();
        x.person(33, 9);
        x.person(34, 9);
        x.move(0, 2, 101, 0, 11);
        x.set(1, 2, 40);
        return x;
    }

    private static int check(StageFights x, int n, int... rows) {
        for (int row : rows) {
            x.tell(row);
        }
        return x.check(n);
    }

    private static void check() {
        StageFights x = near();
        x.keep();
        Due.is("right", check(x, 1, 1, 42), 0);
        Due.is("right again", check(x, 1, 1, 42), 0);
        Due.is("two", check(x, 2, 1, 42, 1, 44), 0);
        Due.is("the first is wrong", check(x, 2, 0, 42, 1, 44), 1);
        Due.is("the second", check(x, 2, 1, 41, 1, 44), 2);
        Due.is("the third", check(x, 2, 1, 42, 2, 44), 3);
        Due.is("the fourth", check(x, 2, 1, 42, 1, 45), 4);
        Due.is("the first of two wrong ones", check(x, 2, 1, 41, 2, 44), 2);
        Due.is("all are missing", check(x, 2), 1);
        Due.is("the second is missing", check(x, 2, 1), 2);
        Due.is("the third is missing", check(x, 2, 1, 42), 3);
        Due.is("the last is missing", check(x, 2, 1, 42, 1), 4);
        Due.is("one too many", check(x, 2, 1, 42, 1, 44, 1), 5);
        Due.is("two too many", check(x, 1, 1, 42, 1, 44), 3);
        Due.is("nothing is done by it", x.count(9), 0);
        Due.is("no row of the log", x.count(10), 0);
        Due.is("z", x.count(13), 1);
        Due.is("tired", x.told(0, 2), 0);
    }

    private static void checkFromTheImage() {
        StageFights x = near();
        x.keep();
        x.show(3);
        x.cut(0, true);
        x.set(1, 2, 0);
        x.person(0, 0);
        String before = Due.state(x);
        Due.is("from the image on", check(x, 2, 1, 42, 1, 44), 0);
        Due.is("nothing is changed by it", before.equals(Due.state(x)) ? 1 : 0, 1);
        x.keep();
        Due.is("from the new image on", check(x, 2, 0, 6, 0, 6), 0);
        StageFights y = new StageFights();
        for (int i = 0; i < 49; i++) {
            y.show(20);
        }
        y.show(19);
        y.keep();
        Due.is("beyond 999 shows", check(y, 2, 0, 0, 0, 0), 0);
        Due.is("count(9)", y.count(9), 999);
    }

    private static void longest() {
        StageFights x = near();
        x.keep();
        int tired = 40;
        int own = 0;
        for (int i = 0; i < 20; i++) {
            own = Math.min(99, own + 2);
            x.tell(1);
            x.tell(tired + own);
        }
        Due.is("twenty", x.check(20), 0);
    }

    private static StageFights all() {
        StageFights x = new StageFights();
        x.person(33, 8);
        x.person(34, 7);
        x.person(77, 6);
        x.move(0, 2, 101, 0, 11);
        x.move(1, 1, 201, 55, 1);
        x.move(2, 3, 303, 0, 1);
        x.cut(2, true);
        x.sign(1, 9);
        x.wet(1);
        Due.text(x, "hours n*2+1");
        Due.text(x, "bar b>25");
        x.practise(0, 2, 17);
        x.choose(1);
        x.choose(0);
        x.weapon();
        x.weapon();
        x.out(1, 0);
        x.seed(99);
        x.show(3);
        return x;
    }

    private static void change(StageFights x) {
        x.person(0, 0);
        x.set(0, 1, 0);
        x.set(1, 2, 99);
        x.move(3, 5, 401, 7, 1);
        x.cut(0, true);
        x.cut(2, false);
        x.sign(2, 29);
        x.wet(0);
        Due.text(x, "late 3");
        Due.text(x, "bar 1");
        x.practise(0, 1, 5);
        x.practise(0, 2, 5);
        x.clear();
        x.choose(2);
        x.weapon();
        x.in(1);
        x.out(0, 2);
        x.seed(3);
        x.show(7);
    }

    private static void images() {
        StageFights x = all();
        Due.is("no image", x.back(), Due.NO);
        Due.is("keep", x.keep(), 3);
        String kept = Due.state(x);
        for (int i = 0; i < 3; i++) {
            change(x);
            Due.is("changed", kept.equals(Due.state(x)) ? 1 : 0, 0);
            Due.is("back", x.back(), 3);
            Due.is("as it was", kept.equals(Due.state(x)) ? 1 : 0, 1);
            Due.is("the told ones", x.choose(0), Due.NO);
            Due.is("the wet", x.wet(1), 1);
        }
        Due.is("a new person is as new", x.person(0, 0), 3);
        Due.is("not tired", x.told(3, 2), 0);
        Due.is("has not practised", x.hours(0, 3, 1), 0);
        x.back();
        change(x);
        Due.is("another image", x.keep(), 10);
        String other = Due.state(x);
        x.show(1);
        Due.is("back to it", x.back(), 10);
        Due.is("as it was", other.equals(Due.state(x)) ? 1 : 0, 1);
        Due.is("an empty one", new StageFights().keep(), 0);
    }

    private static void whatAnImageLeavesOut() {
        StageFights x = all();
        x.sheet(0, 0, 3);
        x.keep();
        x.mark(0, 0, 7);
        x.sheet(1, 1, 2);
        x.lay(0, 3, 77);
        x.tell(5);
        x.feed(1, 2, 3);
        x.back();
        Due.is("a sheet's place", x.mark(0, 0, 0), 7);
        Due.is("a sheet", x.mark(1, 0, 1), 0);
        Due.is("a slot", x.rest(0, 100), 77);
        Due.is("a number that waits", x.count(11), 1);
        Due.is("the tape", x.count(12), 12);
    }

    private static void count() {
        StageFights x = all();
        x.tell(1);
        x.tell(1);
        x.feed(0, 0, 0);
        int[] due = {3, 3, 1, 2, 1, 2, 2, 2, 1, 3, x.count(10), 2, 12, x.count(13)};
        for (int what = 0; what < due.length; what++) {
            Due.is("count(" + what + ")", x.count(what), due[what]);
        }
        Due.is("rows of the log", x.log(x.count(10) - 1, 0), 2);
        Due.is("no more rows", x.log(x.count(10), 0), Due.NONE);
        int[] wrong = {-1, 14, Integer.MIN_VALUE, Integer.MAX_VALUE};
        for (int what : wrong) {
            Due.is("count(" + what + ")", x.count(what), Due.BAD);
        }
    }

    private static void constants() {
        Due.is("BAD", StageFights.BAD, -1000000001);
        Due.is("NO", StageFights.NO, -1000000002);
        Due.is("FULL", StageFights.FULL, -1000000003);
        Due.is("NONE", StageFights.NONE, -1000000005);
        Due.is("NOTHING", StageFights.NOTHING, -1000000011);
        Due.is("KIND", StageFights.KIND, -1000000012);
        Due.is("INDEX", StageFights.INDEX, -1000000013);
        Due.is("SIZE", StageFights.SIZE, -1000000014);
    }
}
