/** Promises 18 to 24: the tape, texts and their faults, hours, whether a show may be. */
public final class LawTest {
    public static void main(String[] args) {
        feedAndTrim();
        faults();
        texts();
        late();
        values();
        bar();
        hours();
        practise();
        may();
        Due.end();
    }

    private static void feedAndTrim() {
        StageFights x = new StageFights();
        for (int i = 1; i <= 8; i++) {
            Due.is("feed " + i, x.feed(i, -1, 0), 12 * i);
        }
        Due.is("feed 9", x.feed(0, 0, 0), Due.FULL);
        Due.is("count(12)", x.count(12), 96);
        Due.is("trim(97)", x.trim(97), Due.BAD);
        Due.is("trim(96)", x.trim(96), 96);
        Due.is("trim(85)", x.trim(85), 85);
        Due.is("feed, too long by one", x.feed(0, 0, 0), Due.FULL);
        Due.is("trim(84)", x.trim(84), 84);
        Due.is("feed, just so", x.feed(0, 0, 0), 96);
        Due.is("trim(-1)", x.trim(-1), Due.BAD);
        Due.is("count(12)", x.count(12), 96);
        Due.is("trim(0)", x.trim(0), 0);
        Due.is("trim(1)", x.trim(1), Due.BAD);
        x.feed(0x20202068, 0x6f757273, 0x20372020);
        Due.is("the highest byte first", x.text(), 0);
        Due.is("used up", x.count(12), 0);
    }

    private static void fault(String bytes, int place) {
        StageFights x = new StageFights();
        Due.is("text '" + bytes + "'", Due.text(x, bytes), -100 - place);
        Due.is("used up '" + bytes + "'", x.count(12), 0);
        Due.is("no text '" + bytes + "'", x.count(5), 0);
    }

    private static void faults() {
        fault("", 0);
        fault("   ", 3);
        fault("la", 0);
        fault("lat e", 0);
        fault("lates", 0);
        fault("latez", 0);
        fault("latea", 0);
        fault("xate s", 0);
        fault("late0", 4);
        fault("late9", 4);
        fault("late !+s", 6);
        fault("late (+s)", 6);
        fault("late !(s", 8);
        fault(" Late s", 1);
        fault("hour s", 0);
        fault("7", 0);
        fault("(late s)", 0);
        fault("late", 4);
        fault("late  ", 6);
        fault("late k", 5);
        fault("late n", 5);
        fault("bar t", 4);
        fault("bar n", 4);
        fault("hours w", 6);
        fault("hours a", 6);
        fault("late7", 4);
        fault("late st", 5);
        fault("late s t", 7);
        fault("late 7s", 6);
        fault("late s7", 6);
        fault("late 7 7", 7);
        fault("late 12345", 5);
        fault("late s + 00000", 9);
        fault("late s +", 8);
        fault("late s + ", 9);
        fault("late + s", 5);
        fault("late -1", 5);
        fault("late s++t", 7);
        fault("late s<t<w", 8);
        fault("late s<t=w", 8);
        fault("late (s<t)=w>1", 12);
        fault("late s==t", 7);
        fault("late s&&t", 7);
        fault("late s||t", 7);
        fault("late s)", 6);
        fault("late (s", 7);
        fault("late ()", 6);
        fault("late (s))", 8);
        fault("late s!", 6);
        fault("late s(t)", 6);
        fault("late (s)(t)", 8);
        fault("late (s)t", 8);
        fault("late !", 6);
        fault("late s#t", 6);
        fault("late\ts", 4);
        fault("late s\n", 6);
        fault("late s" + (char) 233, 6);
        fault("late S", 5);
        fault("late ((((((((s)))))))", 21);
        fault("late (((((((((s)))))))))", 13);
        fault("late (s)+(((((((((s)))))))))", 17);
        fault("late !!!!!!!!!s", 13);
        fault("late !!!!(!!!!(!s))", 15);
        fault("late !!!!!!!!(s+!s)", 16);
        fault("late (!(!(!(!(!(!(!(!(!s", 21);
    }

    private static void told(String bytes, int key, int leaves) {
        StageFights x = new StageFights();
        Due.is("text '" + bytes + "'", Due.text(x, bytes), 0);
        Due.is("key of '" + bytes + "'", x.textTold(0, 0), key);
        Due.is("leaves of '" + bytes + "'", x.textTold(0, 1), leaves);
    }

    private static void texts() {
        told("late s", 0, 1);
        told("  bar   k  ", 1, 1);
        told("hours(n)", 2, 1);
        told("late!s", 0, 1);
        told("late 0000+9999", 0, 2);
        told("bar k=3&s<5|b>80&a*2/3-1+(!k)", 1, 11);
        told("late ((((((((s))))))))", 0, 1);
        told("late ((((((((s))))))))+((((((((t))))))))", 0, 2);
        told("late !!!!!!!!s", 0, 1);
        told("late !!!!!!!!s+!!!!!!!!s", 0, 2);
        told("late !(!(!(!(!(!(!(!(w))))))))", 0, 1);
        told("late s<t&s<t|s<t", 0, 6);
        told("late (s<t)<(s>t)", 0, 4);
        StringBuilder longest = new StringBuilder("late s");
        while (longest.length() < 96) {
            longest.append("+s");
        }
        told(longest.toString(), 0, 46);
        StageFights x = new StageFights();
        for (int i = 0; i < 14; i++) {
            Due.is("text " + i, Due.text(x, i % 2 == 0 ? "late 1" : "hours 2*n"), i);
        }
        Due.is("a further one", Due.text(x, "late 3"), Due.FULL);
        Due.is("used up all the same", x.count(12), 0);
        Due.is("its fault ahead of FULL", Due.text(x, "late 3)"), -106);
        Due.is("count(5)", x.count(5), 14);
        Due.is("textTold(13, 0)", x.textTold(13, 0), 2);
        Due.is("textTold(13, 1)", x.textTold(13, 1), 2);
        Due.is("textTold(14, 0)", x.textTold(14, 0), Due.BAD);
        Due.is("textTold(-1, 0)", x.textTold(-1, 0), Due.BAD);
        Due.is("textTold(0, 2)", x.textTold(0, 2), Due.BAD);
        Due.is("textTold(0, -1)", x.textTold(0, -1), Due.BAD);
    }

    private static void late() {
        StageFights x = new StageFights();
        x.person(0, 7);
        x.person(0, 2);
        x.set(1, 2, 40);
        Due.text(x, "late s");
        Due.is("held above", x.told(0, 4), 3);
        Due.is("skill", x.told(1, 4), 2);
        Due.text(x, "late t/20");
        Due.is("tired", x.told(1, 4), 2);
        Due.is("not tired", x.told(0, 4), 0);
        Due.text(x, "late w");
        Due.is("dry", x.told(0, 4), 0);
        x.wet(1);
        Due.is("wet", x.told(0, 4), 1);
        Due.text(x, "late 0-5");
        Due.is("held below", x.told(0, 4), 0);
        Due.text(x, "bar 1");
        Due.is("another key", x.told(0, 4), 0);
        Due.text(x, "late x");
        Due.is("a fault", x.told(0, 4), 0);
    }

    /** The value of an expression, 0 .. 99 held, with n 0 and s 5. */
    private static void value(String e, int due) {
        StageFights x = new StageFights();
        x.person(0, 5);
        x.person(0, 7);
        Due.is("text of " + e, Due.text(x, "hours " + e), 0);
        Due.is(e, x.hours(0, 1, 0), due);
    }

    private static void values() {
        value("7", 7);
        value("s", 5);
        value("1+2*3", 7);
        value("(1+2)*3", 9);
        value("20-3-4", 13);
        value("100/10/5", 2);
        value("7/2*2", 6);
        value("9/0", 0);
        value("9/0+4", 4);
        value("50+(0-7)/2", 47);
        value("50+(0-7)/(0-2)", 53);
        value("!0", 1);
        value("!7", 0);
        value("!!7", 1);
        value("!0+5", 6);
        value("!s*9", 0);
        value("!(s-5)*9", 9);
        value("3<4", 1);
        value("4<4", 0);
        value("4=4", 1);
        value("4=5", 0);
        value("5>4", 1);
        value("4>4", 0);
        value("1+1=2", 1);
        value("(0-1)<1", 1);
        value("3&5", 1);
        value("3&0", 0);
        value("0&3", 0);
        value("0|0", 0);
        value("0|9", 1);
        value("9|0", 1);
        value("1|0&0", 1);
        value("(1|0)&0", 0);
        value("0|2", 1);
        value("5&3=3", 1);
        value("2+(3>2)*10", 12);
        value("99", 99);
        value("100", 99);
        value("0-1", 0);
        // 99980001 times 22 and 43: below 0, and 4172747, as ints wrap.
        value("9999*9999*22<0", 1);
        value("9999*9999*43/100/1000", 41);
        value("9999*9999*21+9999*9999<0", 1);
        value("0-9999*9999*21-9999*9999>0", 1);
    }

    private static void bar() {
        StageFights x = new StageFights();
        x.person(0, 5);
        x.person(70, 8);
        x.move(0, 4, 301, 0, 10);
        x.move(1, 2, 501, 0, 0);
        Due.is("no text", x.of(0, 12), 0);
        String[] laws = {"bar k=4", "bar s=5", "bar b=30", "bar a=8", "bar 0-1", "bar k-4"};
        int[] first = {1, 1, 1, 1, 1, 0};
        int[] second = {0, 0, 0, 0, 1, 1};
        for (int i = 0; i < laws.length; i++) {
            Due.text(x, laws[i]);
            Due.is(laws[i] + ", the first", x.of(0, 12), first[i]);
            Due.is(laws[i] + ", the second", x.of(1, 12), second[i]);
        }
    }

    private static void hours() {
        StageFights x = new StageFights();
        x.person(0, 5);
        x.person(70, 8);
        x.person(77, 0);
        x.move(0, 2, 11, 0, 10);
        x.move(1, 3, 21, 0, 0);
        x.move(1, 4, 31, 0, 0);
        x.move(1, 1, 41, 0, 0);
        x.move(2, 2, 51, 0, 10);
        Due.is("three blows, skill 5", x.hours(0, 1, 0), 15);
        Due.is("the other way round", x.hours(1, 0, 0), 15);
        Due.is("one blow, skill 0", x.hours(1, 2, 0), 10);
        Due.is("none", x.hours(0, 2, 0), 0);
        x.cut(1, true);
        Due.is("one cut", x.hours(0, 1, 0), 10);
        Due.text(x, "hours n*10+s");
        Due.is("by the law", x.hours(0, 1, 0), 25);
        Due.is("by the law, none", x.hours(0, 2, 0), 0);
        int[][] wrong = {{0, 0, 0}, {0, 3, 0}, {3, 0, 0}, {-1, 0, 0}, {0, -1, 1}, {0, 1, 2}, {0, 1, -1}};
        for (int[] w : wrong) {
            Due.is("hours " + java.util.Arrays.toString(w), x.hours(w[0], w[1], w[2]), Due.BAD);
        }
        StageFights y = new StageFights();
        y.person(0, 0);
        y.person(70, 0);
        for (int i = 0; i < 20; i++) {
            y.move(0, 4, 10 * i + 1, 0, 10);
        }
        Due.is("without a text not held", y.hours(0, 1, 0), 200);
        Due.text(y, "hours n*10");
        Due.is("with one held", y.hours(0, 1, 0), 99);
    }

    private static void practise() {
        StageFights x = new StageFights();
        x.person(0, 5);
        x.person(70, 8);
        x.person(77, 0);
        Due.is("practise", x.practise(0, 1, 30), 30);
        Due.is("the other way round", x.practise(1, 0, 1), 31);
        Due.is("told", x.hours(0, 1, 1), 31);
        Due.is("told the other way round", x.hours(1, 0, 1), 31);
        Due.is("of others", x.hours(0, 2, 1), 0);
        Due.is("99 at most", x.practise(0, 1, 99), 99);
        Due.is("99 at once", x.practise(2, 1, 99), 99);
        int[][] wrong = {{0, 0, 1}, {0, 3, 1}, {-1, 0, 1}, {0, 2, 0}, {0, 2, 100}, {0, 2, -1}};
        for (int[] w : wrong) {
            Due.refused("practise " + java.util.Arrays.toString(w), x, () -> x.practise(w[0], w[1], w[2]), Due.BAD);
        }
    }

    private static void may() {
        StageFights x = new StageFights();
        x.person(0, 9);
        x.person(70, 9);
        x.person(77, 9);
        Due.is("nothing", x.may(), 0);
        x.move(0, 2, 101, 0, 19);
        Due.is("a breach", x.may(), 1);
        Due.text(x, "bar k=2");
        Due.is("a breach ahead of a bar", x.may(), 1);
        x.cut(0, true);
        Due.is("barred, but cut", x.may(), 0);
        x.move(0, 2, 201, 0, 10);
        Due.is("barred", x.may(), 2);
        x.cut(0, false);
        x.cut(1, true);
        x.set(0, 1, 9);
        Due.text(x, "bar k=2");
        Due.is("a breach ahead of a bar", x.may(), 1);
        x.cut(0, true);
        x.cut(1, false);
        Due.text(x, "bar 0");
        Due.is("lacks an hour", x.may(), 3);
        x.practise(0, 2, 50);
        Due.is("the wrong two", x.may(), 3);
        x.practise(0, 1, 1);
        Due.is("it may", x.may(), 0);
        Due.text(x, "hours 2");
        Due.is("all lack hours", x.may(), 3);
        x.practise(0, 1, 1);
        Due.is("one and two lack hours", x.may(), 3);
        x.practise(2, 1, 2);
        Due.is("it may", x.may(), 0);
        Due.text(x, "bar k=2");
        Due.is("barred", x.may(), 2);
        StageFights y = new StageFights();
        y.person(0, 9);
        y.person(110, 9);
        y.move(0, 2, 101, 0, 10);
        Due.text(y, "bar k=2");
        Due.is("the first move is barred", y.may(), 2);
    }
}
