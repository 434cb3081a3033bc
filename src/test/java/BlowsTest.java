/** Promises 11 to 17: gaps, what keeps, breaches, signs, what is seen, the story. */
public final class BlowsTest {
    public static void main(String[] args) {
        gap();
        lateGaps();
        keepsAndBreach();
        sign();
        unready();
        seen();
        story();
        Due.end();
    }

    /** 0 at 33, 1 at 73, 2 at 37: both four away; 0 strikes at beats 10 and 11. */
    private static StageFights blow(int kind, int span) {
        StageFights x = new StageFights();
        x.person(33, 9);
        x.person(73, 9);
        x.person(37, 9);
        x.move(0, kind, 102, 0, 10 + span);
        return x;
    }

    private static void gap() {
        int[] due = {0, 0, 2, 1, 3, 0};
        for (int kind = 2; kind <= 4; kind++) {
            StageFights x = blow(kind, 0);
            Due.is("gap to the aim, kind " + kind, x.gap(0, 1), due[kind]);
            Due.is("gap to another, kind " + kind, x.gap(0, 2), due[kind]);
            Due.is("gap to whose it is", x.gap(0, 0), Due.NO);
        }
        StageFights x = blow(2, 0);
        x.move(1, 1, 301, 33, 0);
        x.move(1, 2, 401, 33, 0);
        x.move(1, 3, 411, 33, 0);
        Due.is("gap, right beside", x.gap(2, 0), -2);
        Due.is("gap of a thrust, right beside", x.gap(3, 0), -3);
        Due.is("gap of a step", x.gap(1, 0), Due.KIND);
        Due.is("KIND ahead of NO", x.gap(1, 1), Due.KIND);
        Due.is("BAD ahead of KIND", x.gap(1, 3), Due.BAD);
        Due.is("gap(0, -1)", x.gap(0, -1), Due.BAD);
        Due.is("gap(-1, 0)", x.gap(-1, 0), Due.BAD);
        Due.is("gap(4, 0)", x.gap(4, 0), Due.BAD);
        x.cut(2, true);
        Due.is("gap of a cut blow", x.gap(2, 0), -2);
    }

    private static void lateGaps() {
        // One comes near at beat 12, right behind the blow.
        StageFights x = blow(2, 0);
        x.move(1, 1, 121, 33, 0);
        Due.is("nobody late", x.gap(0, 1), 2);
        x.set(1, 1, 6);
        Due.is("who comes is late", x.gap(0, 1), 2);
        x.set(0, 1, 6);
        Due.is("who strikes is late", x.gap(0, 1), -2);
        x.set(1, 1, 9);
        Due.is("only who strikes is late", x.gap(0, 1), -2);
        // One goes away at beat 8, two ahead of the blow.
        StageFights y = new StageFights();
        y.person(33, 9);
        y.person(43, 9);
        y.move(0, 2, 102, 0, 10);
        y.move(1, 1, 81, 103, 0);
        Due.is("gone", y.gap(0, 1), 5);
        y.set(0, 1, 0);
        Due.is("gone, who strikes is late", y.gap(0, 1), 5);
        y.set(1, 1, 3);
        Due.is("gone late by 2: at beat 8 already", y.gap(0, 1), 5);
        y.wet(1);
        Due.is("gone late by 3: at beat 7 still there", y.gap(0, 1), -1);
        y.wet(0);
        y.set(1, 2, 25);
        Due.is("tired, gone late by 3", y.gap(0, 1), -1);
        // Who strikes goes on right behind the blow, and has come right ahead of it.
        StageFights w = new StageFights();
        w.person(3, 9);
        w.person(63, 9);
        w.move(0, 2, 101, 0, 10);
        w.move(0, 1, 91, 33, 10);
        w.move(0, 1, 111, 53, 10);
        Due.is("ahead of going on", w.gap(0, 1), 1);
        w.set(0, 1, 0);
        Due.is("late, all the same", w.gap(0, 1), 1);
        // At the first beat, whoever is late has not begun yet.
        StageFights z = new StageFights();
        z.person(33, 9);
        z.person(43, 9);
        z.move(0, 2, 1, 0, 10);
        z.move(1, 1, 1, 103, 0);
        Due.is("at beat 0", z.gap(0, 1), 5);
        z.set(1, 1, 6);
        Due.is("ahead of beat 0", z.gap(0, 1), -1);
    }

    private static void keepsAndBreach() {
        int[] due = {1, 1, 1, 0, 0, 0, 0, 0, 0, 0};
        int[] to = {Due.NONE, Due.NONE, Due.NONE, 2, 2, 2, 1, 1, 1, 1};
        for (int span = 0; span <= 9; span++) {
            StageFights x = blow(2, span);
            Due.is("keeps, span " + span, x.keeps(0), due[span]);
            Due.is("breach(0), span " + span, x.breach(0), due[span] == 1 ? Due.NONE : 0);
            Due.is("breach(1), span " + span, x.breach(1), to[span]);
            x.cut(0, true);
            Due.is("keeps, cut, span " + span, x.keeps(0), due[span]);
            Due.is("breach, cut", x.breach(0), Due.NONE);
        }
        StageFights x = blow(2, 3);
        x.move(0, 3, 201, 0, 15);
        x.move(0, 1, 301, 0, 15);
        x.cut(0, true);
        Due.is("breach of the second", x.breach(0), 1);
        Due.is("its person", x.breach(1), 1);
        Due.is("keeps of a step", x.keeps(2), Due.KIND);
        Due.is("keeps(3)", x.keeps(3), Due.BAD);
        Due.is("keeps(-1)", x.keeps(-1), Due.BAD);
        StageFights y = blow(2, 0);
        y.move(1, 2, 501, 0, 23);
        Due.is("too near to person 0 alone", y.breach(0), 1);
        Due.is("to person 0", y.breach(1), 0);
        Due.is("breach(2)", x.breach(2), Due.BAD);
        Due.is("breach(-1)", x.breach(-1), Due.BAD);
    }

    private static void sign() {
        StageFights x = blow(2, 0);
        Due.refused("sign(3, 0)", x, () -> x.sign(3, 0), Due.BAD);
        Due.refused("sign(-1, 0)", x, () -> x.sign(-1, 0), Due.BAD);
        Due.refused("sign(0, -1)", x, () -> x.sign(0, -1), Due.BAD);
        Due.refused("sign(0, 100)", x, () -> x.sign(0, 100), Due.BAD);
        for (int i = 1; i <= 20; i++) {
            Due.is("sign " + i, x.sign(i % 3, i == 1 ? 99 : i == 2 ? 0 : 50), i);
        }
        Due.refused("a further sign", x, () -> x.sign(0, 50), Due.FULL);
        Due.is("BAD ahead of FULL", x.sign(0, 100), Due.BAD);
        Due.is("count(4)", x.count(4), 20);
    }

    private static void unready() {
        for (int beat = 4; beat <= 12; beat++) {
            StageFights x = blow(2, 0);
            Due.is("no sign", x.unready(0), 1);
            x.sign(0, 9);
            x.sign(2, 9);
            Due.is("signs of others", x.unready(0), 1);
            x.sign(1, beat);
            boolean ready = beat >= 7 && beat <= 9;
            Due.is("sign at " + beat, x.unready(0), ready ? 0 : 1);
            Due.is("all, sign at " + beat, x.unready(-1), ready ? 0 : 1);
        }
        StageFights one = blow(2, 0);
        one.sign(1, 8);
        Due.is("the only sign", one.unready(0), 0);
        StageFights x = blow(2, 0);
        x.move(0, 4, 201, 0, 20);
        x.move(1, 5, 201, 0, 20);
        Due.is("all", x.unready(-1), 2);
        x.cut(1, true);
        Due.is("all but the cut one", x.unready(-1), 1);
        Due.is("the cut one", x.unready(1), 1);
        Due.is("a fall", x.unready(2), Due.KIND);
        Due.is("unready(3)", x.unready(3), Due.BAD);
        Due.is("unready(-2)", x.unready(-2), Due.BAD);
    }

    private static void seen() {
        StageFights x = blow(2, 0);
        Due.is("one stands ahead", x.seen(0), 0);
        x.move(2, 1, 101, 47, 0);
        Due.is("gone to another x by then", x.seen(0), 1);
        x.cut(1, true);
        Due.is("not gone", x.seen(0), 0);
        StageFights y = new StageFights();
        y.person(34, 0);
        y.person(37, 0);
        y.person(33, 0);
        y.person(34, 0);
        y.move(0, 2, 102, 0, 10);
        Due.is("the aim ahead, others behind and at the same place", y.seen(0), 1);
        y.move(2, 1, 111, 36, 0);
        Due.is("comes at the second beat", y.seen(0), 1);
        y.move(3, 1, 101, 35, 0);
        Due.is("comes at the first beat", y.seen(0), 0);
        y.cut(0, true);
        Due.is("cut, not seen", y.seen(0), 0);
        StageFights z = new StageFights();
        z.person(57, 9);
        z.person(50, 9);
        z.person(0, 9);
        z.move(1, 2, 101, 0, 20);
        Due.is("person 0 stands ahead", z.seen(0), 0);
        Due.is("seen of a step", y.seen(1), Due.KIND);
        Due.is("seen(3)", y.seen(3), Due.BAD);
        Due.is("seen(-1)", y.seen(-1), Due.BAD);
    }

    private static void story() {
        StageFights x = blow(2, 0);
        Due.is("not seen", x.story(), 0);
        x.move(2, 1, 91, 47, 0);
        Due.is("a step, and a blow that is seen", x.story(), 6);
        x.move(1, 5, 91, 77, 0);
        x.move(1, 3, 111, 0, 0);
        x.move(1, 4, 121, 0, 0);
        x.move(1, 0, 131, 0, 0);
        Due.is("and a fall, a thrust, a feint, a move", x.story(), 6 + 4 + 7 + 2);
        x.cut(3, true);
        Due.is("less the thrust", x.story(), 12);
        x.cut(1, true);
        Due.is("less the step, and so the blow", x.story(), 6);
    }
}
