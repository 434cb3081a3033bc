/** Promises 30 to 33: weapons, out and in, and how worn. */
public final class WeaponsTest {
    public static void main(String[] args) {
        weapons();
        outAndIn();
        wear();
        Due.end();
    }

    private static void weapons() {
        StageFights x = new StageFights();
        for (int i = 0; i < 6; i++) {
            Due.is("weapon " + i, x.weapon(), i);
            Due.is("not worn", x.wear(i, 0), 0);
            Due.is("in", x.wear(i, 1), Due.NONE);
            Due.is("not dull", x.wear(i, 2), 0);
        }
        Due.refused("a seventh", x, () -> x.weapon(), Due.FULL);
        Due.is("count(7)", x.count(7), 6);
        int[][] wrong = {{6, 0}, {-1, 0}, {0, 3}, {0, -1}};
        for (int[] w : wrong) {
            Due.is("wear " + w[0] + " " + w[1], x.wear(w[0], w[1]), Due.BAD);
        }
    }

    private static void outAndIn() {
        StageFights x = new StageFights();
        x.person(0, 9);
        x.person(110, 9);
        x.weapon();
        x.weapon();
        Due.refused("out(2, 0)", x, () -> x.out(2, 0), Due.BAD);
        Due.refused("out(-1, 0)", x, () -> x.out(-1, 0), Due.BAD);
        Due.refused("out(0, 2)", x, () -> x.out(0, 2), Due.BAD);
        Due.refused("out(0, -1)", x, () -> x.out(0, -1), Due.BAD);
        Due.refused("in, it is in", x, () -> x.in(0), Due.NO);
        Due.is("out", x.out(1, 0), 1);
        Due.is("who has it", x.wear(1, 1), 0);
        Due.is("what they have", x.told(0, 3), 1);
        Due.is("count(8)", x.count(8), 1);
        Due.refused("it is out", x, () -> x.out(1, 1), Due.NO);
        Due.refused("it is out to them", x, () -> x.out(1, 0), Due.NO);
        Due.refused("they have one", x, () -> x.out(0, 0), Due.NO);
        Due.is("out to the other one", x.out(0, 1), 1);
        Due.is("count(8)", x.count(8), 2);
        Due.is("in", x.in(1), 0);
        Due.is("none any more", x.told(0, 3), Due.NONE);
        Due.is("nobody has it", x.wear(1, 1), Due.NONE);
        Due.is("in of the other one", x.in(0), 1);
        Due.refused("in(2)", x, () -> x.in(2), Due.BAD);
        Due.refused("in(-1)", x, () -> x.in(-1), Due.BAD);
        Due.is("count(8)", x.count(8), 0);
    }

    private static void wear() {
        StageFights x = new StageFights();
        x.person(0, 9);
        x.person(110, 9);
        // Blow, thrust, feint, step, fall, move: 1 and 2 and nothing more.
        int[] kinds = {2, 3, 4, 1, 5, 0};
        for (int i = 0; i < 6; i++) {
            x.move(0, kinds[i], 10 * i + 1, 0, 10);
        }
        x.move(1, 2, 1, 110, 0);
        x.weapon();
        x.weapon();
        x.out(0, 0);
        x.show(1);
        Due.is("3 more", x.wear(0, 0), 3);
        Due.is("one that is in", x.wear(1, 0), 0);
        x.cut(1, true);
        x.show(1);
        Due.is("1 more, the thrust being cut", x.wear(0, 0), 4);
        x.show(16);
        Due.is("at 20", x.wear(0, 0), 20);
        Due.is("not dull", x.wear(0, 2), 0);
        x.in(0);
        Due.is("out at 20", x.out(0, 1), 1);
        x.show(1);
        Due.is("at 21", x.wear(0, 0), 21);
        Due.is("dull", x.wear(0, 2), 1);
        Due.is("it comes in", x.in(0), 1);
        Due.refused("it goes out no more", x, () -> x.out(0, 0), Due.NO);
        x.cut(1, false);
        x.out(1, 0);
        x.show(20);
        x.show(12);
        Due.is("96", x.wear(1, 0), 96);
        x.show(1);
        Due.is("99", x.wear(1, 0), 99);
        x.show(1);
        Due.is("99 at most", x.wear(1, 0), 99);
    }
}
