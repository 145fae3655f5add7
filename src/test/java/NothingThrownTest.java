/** Every call with far arguments in any state, beyond the 512 calls too: the machine never throws, and all calls end. */
public final class NothingThrownTest {
    private static final Checks CHECKS = new Checks("NothingThrownTest");
    private static final int[] FAR = {
        Integer.MIN_VALUE, Integer.MIN_VALUE + 1, -1000000, -300, -2, -1, 0, 1, 2, 3, 5, 6, 7, 8, 9, 10, 11, 12, 15, 16,
        25, 40, 41, 99, 100, 101, 160, 161, 199, 200, 201, 299, 300, 1000, 1001, 65535, 65536, 999999, 1 << 28, 1 << 30,
        Integer.MAX_VALUE - 1, Integer.MAX_VALUE
    };
    private static long state = 4101842887655102017L;

    public static void main(String[] args) {
        for (int run = 0; run < 60; run++) {
            StarDays x = run % 3 == 0 ? new StarDays() : Checks.with(1 + run % 6, 1 + run / 6 % 6);
            for (int i = 0; i < 4000; i++) {
                call(x, lot(32), run);
            }
            CHECKS.due("tape of run " + run, x.count(6) >= 0 && x.count(6) <= 200, true);
            CHECKS.due("answers of run " + run, x.count(4) <= 200, true);
        }
        CHECKS.end();
    }

    private static int lot(int below) {
        state ^= state << 13;
        state ^= state >>> 7;
        state ^= state << 17;
        return (int) Math.floorMod(state >>> 9, (long) below);
    }

    private static int far() {
        return lot(2) == 0 ? lot(4) : FAR[lot(FAR.length)];
    }

    private static void call(StarDays x, int which, int run) {
        int a = far();
        int b = far();
        int c = far();
        int d = far();
        int e = far();
        switch (which) {
            case 0 -> x.store();
            case 1 -> x.head();
            case 2 -> x.share(a, b, c);
            case 3 -> x.task(a, b, c);
            case 4 -> x.now(run % 2 == 0 ? a : x.count(0) + lot(2));
            case 5 -> x.seed(a);
            case 6 -> x.feed(a, b, c, d, e);
            case 7 -> x.law(a, b);
            case 8 -> x.gives(a, b, c);
            case 9 -> x.does(a, b);
            case 10 -> x.told(a, b, x.count(0), d);
            case 11 -> x.answer(a, b);
            case 12 -> x.can(a, b, c);
            case 13 -> x.worse(a, b, c, d);
            case 14 -> x.parted(a, b, c, d, e);
            case 15 -> x.fewest(a);
            case 16 -> x.lacks(a, b);
            case 17 -> x.next(a, b);
            case 18 -> x.purest(a);
            case 19 -> x.old(a, b, c);
            case 20 -> x.back(a);
            case 21 -> x.lasts(a, b, c, d);
            case 22 -> x.mistakes(a, b, c);
            case 23 -> x.curve(a, b, c);
            case 24 -> x.asks(a, b);
            case 25 -> x.unasked(a);
            case 26 -> x.again();
            case 27 -> x.check(a);
            case 28 -> x.count(a);
            case 29 -> x.told(a, b, c, d);
            case 30 -> Checks.feedText(x, LawTexts.text(NothingThrownTest::lot));
            default -> x.law(lot(6), Math.min(160, x.count(6)));
        }
    }
}
