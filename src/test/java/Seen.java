import java.util.List;
import java.util.function.BiConsumer;
import java.util.function.Supplier;

/** All that can be seen of an object, also by calls that change it: so each part is looked at on an object of its own. */
final class Seen {
    /** No part asks more of an object. */
    static final int MOST_CALLS = 190;

    private static final List<BiConsumer<StageFights, StringBuilder>> PARTS = List.of(
        Seen::counts, Seen::people, (x, all) -> moves(x, all, 0), (x, all) -> moves(x, all, 10), Seen::blows,
        Seen::lawAndLog, Seen::slots, Seen::sheets, Seen::told, Seen::tape, Seen::image, Seen::shows);

    private Seen() {
    }

    /** Everything, or everything but the numbers that wait. */
    static String of(Supplier<StageFights> make, boolean waiting) {
        StringBuilder all = new StringBuilder();
        for (BiConsumer<StageFights, StringBuilder> part : PARTS) {
            part.accept(make.get(), all);
        }
        if (waiting) {
            StageFights x = make.get();
            all.append(" waiting ").append(x.count(11)).append(' ').append(x.check(Math.max(1, Math.min(20, x.count(11) / 2))));
        }
        return all.toString();
    }

    private static void counts(StageFights x, StringBuilder all) {
        for (int what = 0; what <= 13; what++) {
            all.append(' ').append(what == 11 ? 0 : x.count(what));
        }
        all.append(" breach ").append(x.breach(0)).append(' ').append(x.breach(1));
        all.append(" shifts");
        for (int what = -1; what < 3; what++) {
            all.append(' ').append(x.shifts(what));
        }
        all.append(" may ").append(x.may()).append(" story ").append(x.story()).append(" led ").append(x.led());
        all.append(" unready ").append(x.unready(-1));
    }

    private static void people(StageFights x, StringBuilder all) {
        int many = x.count(0);
        for (int i = 0; i < many; i++) {
            all.append(" person");
            for (int what = 0; what <= 4; what++) {
                all.append(' ').append(x.told(i, what));
            }
            for (int beat : new int[] {-1, 0, 45, 99}) {
                all.append(' ').append(x.where(i, beat));
            }
            for (int other = i + 1; other < many; other++) {
                all.append(' ').append(x.hours(i, other, 0)).append(' ').append(x.hours(i, other, 1));
            }
        }
    }

    private static void moves(StageFights x, StringBuilder all, int from) {
        int many = Math.min(from + 10, x.count(1));
        for (int i = from; i < many; i++) {
            all.append(" move");
            for (int what = 0; what <= 12; what++) {
                all.append(' ').append(x.of(i, what));
            }
        }
    }

    private static void blows(StageFights x, StringBuilder all) {
        int many = x.count(1);
        for (int i = 0; i < many; i++) {
            all.append(' ').append(x.keeps(i)).append(' ').append(x.seen(i)).append(' ').append(x.unready(i));
        }
    }

    private static void lawAndLog(StageFights x, StringBuilder all) {
        for (int i = 0; i < 14; i++) {
            all.append(" text ").append(x.textTold(i, 0)).append(' ').append(x.textTold(i, 1));
        }
        for (int i = 0; i < 6; i++) {
            all.append(" weapon ").append(x.wear(i, 0)).append(' ').append(x.wear(i, 1)).append(' ').append(x.wear(i, 2));
        }
        for (int i = 0; i < 30; i++) {
            all.append(" log ").append(x.log(i, 0)).append(' ').append(x.log(i, 1)).append(' ').append(x.log(i, 2));
        }
    }

    private static void slots(StageFights x, StringBuilder all) {
        for (int slot = 0; slot < 5; slot++) {
            all.append(" slot");
            for (int kind = 0; kind <= 5; kind++) {
                all.append(' ').append(x.ask(slot, kind));
            }
            all.append(' ').append(x.rest(slot, 1000003)).append(' ').append(x.rest(slot, Integer.MIN_VALUE));
            for (int place = 0; place <= 24; place++) {
                all.append(' ').append(x.item(slot, place));
            }
        }
    }

    private static void sheets(StageFights x, StringBuilder all) {
        for (int sheet = 0; sheet < 4; sheet++) {
            x.lay(0, 0, 0);
            all.append(" sheet ").append(x.lay(0, 2, sheet));
            for (int place = 0; place <= 24; place++) {
                all.append(' ').append(x.item(0, place));
            }
            all.append(" sort ").append(x.mark(sheet, 0, 2)).append(' ').append(x.mark(sheet, 0, 0));
        }
    }

    /** Which moves are told, and in what order: as bits of those to be cut, with everybody late. */
    private static void told(StageFights x, StringBuilder all) {
        all.append(" wet ").append(x.wet(0));
        for (int i = 0; i < x.count(0); i++) {
            all.append(' ').append(x.understudy(i, 0, 0)).append(' ').append(x.understudy(i, 9, 1));
        }
        for (int i = 0; i < x.count(1); i++) {
            all.append(' ').append(x.choose(i));
        }
        all.append(' ').append(x.clear());
    }

    private static void tape(StageFights x, StringBuilder all) {
        int number = x.text();
        all.append(" tape ").append(number).append(' ').append(x.textTold(number, 0)).append(' ').append(x.textTold(number, 1));
        all.append(' ').append(x.told(0, 4)).append(' ').append(x.of(0, 12)).append(' ').append(x.hours(0, 1, 0));
    }

    private static void image(StageFights x, StringBuilder all) {
        all.append(" image ").append(x.back());
        counts(x, all);
        for (int i = 0; i < x.count(0); i++) {
            all.append(' ').append(x.told(i, 1)).append(' ').append(x.told(i, 2)).append(' ').append(x.told(i, 3));
        }
        for (int i = 0; i < x.count(1); i++) {
            all.append(' ').append(x.of(i, 2)).append(' ').append(x.of(i, 7)).append(' ').append(x.of(i, 12));
        }
        all.append(" log ").append(x.log(0, 1)).append(' ').append(x.log(29, 1));
    }

    private static void shows(StageFights x, StringBuilder all) {
        all.append(" show ").append(x.show(1)).append(' ').append(x.show(2)).append(' ').append(x.restAll());
        for (int i = 0; i < x.count(0); i++) {
            all.append(' ').append(x.told(i, 2));
        }
        all.append(' ').append(x.count(10)).append(' ').append(x.seed(0));
    }
}
