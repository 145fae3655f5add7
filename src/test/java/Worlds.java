import java.util.ArrayList;
import java.util.List;

/** Objects with something of everything, or full of everything, and whether a refused call leaves them as they were. */
final class Worlds {
    /** One call on an object. A boolean is told as 1 or 0. */
    interface Call {
        long on(StarDays x);
    }

    /** What the tape of each world begins with. */
    static final String TEXT = "g7(1=1)";

    private Worlds() { }

    /** Two stores, two heads, three tasks, four answers, and a little of all else. */
    static StarDays small() {
        StarDays x = smallOfEmptyTape();
        Checks.feedText(x, TEXT);
        return x;
    }

    static StarDays smallOfEmptyTape() {
        StarDays x = Checks.with(2, 2);
        x.task(11, 0, 50);
        x.task(1, 0, 30);
        x.task(20, 1, 100);
        x.share(0, 1, 40);
        Checks.tellLaw(x, 0, "g60+10*n(n<4)");
        x.now(5);
        x.seed(7);
        x.does(0, 0);
        x.does(1, 0);
        x.told(0, 1, 5, 1);
        x.told(1, 1, 5, 0);
        x.now(9);
        x.old(30, 8, 1);
        x.old(60, 9, 0);
        x.mistakes(0, 0, 5);
        x.mistakes(0, 0, 4);
        x.asks(0, 5);
        return x;
    }

    /** Six stores, six heads, eight tasks, 200 answers, forty old things, twelve mistakes, the last day, a full tape. */
    static StarDays full() {
        StarDays x = Checks.with(6, 6);
        for (int t = 0; t < 8; t++) {
            x.task(111111, t % 2, 50);
        }
        x.now(299);
        for (int i = 0; i < 100; i++) {
            x.does(i % 6, i % 8);
            x.told(i % 6, i % 8, 299, i % 2);
        }
        for (int i = 0; i < 40; i++) {
            x.old(i, 6, i < 20 ? 1 : 0);
        }
        for (int i = 0; i < 12; i++) {
            x.mistakes(0, 0, 1000 - i);
        }
        Checks.feedText(x, TEXT);
        for (int i = 1; i < 10; i++) {
            x.feed(0, 0, 0, 0, 0);
        }
        return x;
    }

    /** The call is refused with what is due on such an object, and changes nothing, the tape neither. */
    static void refused(Checks checks, String call, StarDays x, Call made, long due) {
        List<Long> before = all(x);
        checks.due(call, made.on(x), due);
        checks.due(call + " changes nothing", all(x).equals(before), true);
        if (x.count(6) > 0 && x.count(1) > 0) {
            checks.due(call + " leaves the tape's bytes", x.law(0, TEXT.length()), 1);
        }
    }

    /** The same on a world with something of everything. */
    static void refused(Checks checks, String call, Call made, long due) {
        refused(checks, call, small(), made, due);
    }

    /** What can be seen of an object by few calls. */
    private static List<Long> all(StarDays x) {
        List<Long> seen = new ArrayList<>();
        for (int what = 0; what <= 15; what++) {
            seen.add((long) x.count(what));
        }
        for (int what = 0; what <= 4; what++) {
            seen.add((long) x.answer(x.count(4) - 1, what));
        }
        for (int h = 0; h < 2; h++) {
            for (int k = 0; k < 2; k++) {
                seen.add((long) x.gives(h, 0, k));
            }
            seen.add((long) x.can(h, 0, 0));
            seen.add((long) x.can(h, 0, 1));
            seen.add((long) x.unasked(h));
            seen.add((long) x.lacks(h, 0));
            seen.add((long) x.curve(h, 0, 0));
            seen.add((long) x.curve(h, 0, 2));
        }
        for (int what = 0; what <= 2; what++) {
            seen.add((long) x.back(what));
        }
        seen.add((long) x.fewest(-1));
        seen.add(x.worse(0, 1, 0, 0));
        seen.add((long) x.purest(0));
        seen.add((long) x.again());
        return seen;
    }
}
