import java.math.BigInteger;
import java.util.Arrays;

/** Each sentence of promises 11 to 16, and of the terms that they speak of, that names a boundary case. */
public final class BoundsOfAnswersTest {
    private static final Checks CHECKS = new Checks("BoundsOfAnswersTest");
    private static final int MIN = Integer.MIN_VALUE;
    private static final int MAX = Integer.MAX_VALUE;

    public static void main(String[] args) {
        noSuchDoing();
        twoHundredAnswersPlayed();
        leastAndGreatest();
        rightBelowTheLine();
        drawsRunOn();
        lawIsAskedAheadOfTheDoing();
        noSuchTelling();
        toldDays();
        twoHundredAnswersTold();
        toldHasNoneAndDrawsNot();
        noSuchAnswer();
        eachAnswer();
        noSuchAbility();
        moreThanHalf();
        noSuchOdds();
        oddsOfNone();
        oddsOf25();
        oddsWithoutCommonDivisor();
        oddsAreFractionsOfOneAtMost();
        noSuchParting();
        partedAtTheLine();
        partedByOneAndByThousand();
        partedWithoutAnswers();
        partedOfMoreThan25();
        crossed();
        CHECKS.end();
    }

    private static void due(String call, long got, long want) {
        CHECKS.due(call, got, want);
    }

    private static void refused(String call, Worlds.Call made) {
        Worlds.refused(CHECKS, call, made, -1);
    }

    private static void refusedByFull(String call, Worlds.Call made) {
        Worlds.refused(CHECKS, call, Worlds.full(), made, -1);
    }

    /** Numbers that are none of the two heads, nor of the three tasks, of a small world. */
    private static int[] noHeads() {
        return new int[] {MIN, -1, 2, 5, 6, MAX};
    }

    private static int[] noTasks() {
        return new int[] {MIN, -1, 3, 7, 8, MAX};
    }

    /** 11: NONE: no such ones; then there is no draw. */
    private static void noSuchDoing() {
        for (int no : noHeads()) {
            refused("11: does(" + no + ", 0)", x -> x.does(no, 0));
        }
        for (int no : noTasks()) {
            refused("11: does(0, " + no + ")", x -> x.does(0, no));
        }
    }

    /** 11: NONE: 200 ANSWERS are there. */
    private static void twoHundredAnswersPlayed() {
        StarDays x = Checks.with(1, 1);
        x.task(1, 0, 50);
        x.share(0, 0, 0);
        for (int i = 0; i < 200; i++) {
            due("11: answers", x.count(4), i);
            x.does(0, 0);
        }
        int drawn = x.count(7);
        due("11: a 201st", x.does(0, 0), -1);
        due("11: a 201st told", x.told(0, 0, 0, 1), -1);
        due("11: answers", x.count(4), 200);
        due("11: it is not drawn", x.count(7), drawn);
        due("11: all of them again", x.again(), x.can(0, 0, 1));
        refusedByFull("11: does of a full object", y -> y.does(0, 0));
    }

    /** 11: it HAS the least of these (MODE 0) or the greatest (1) of the STORES that it uses. */
    private static void leastAndGreatest() {
        int[][] shares = {{100, 100, 100}, {0, 0, 0}, {0, 100, 50}, {100, 0, 50}, {50, 100, 0}, {99, 100, 98}};
        for (int[] share : shares) {
            StarDays x = Checks.with(3, 1);
            x.task(191, 0, 0);
            x.task(191, 1, 0);
            x.task(100, 0, 0);
            x.task(10, 1, 0);
            for (int k = 0; k < 3; k++) {
                x.share(0, k, share[k]);
            }
            for (int t = 0; t < 4; t++) {
                x.does(0, t);
            }
            due("11: the least", x.answer(0, 4), Math.min(share[0], Math.min(share[1], share[2])));
            due("11: the greatest", x.answer(1, 4), Math.max(share[0], Math.max(share[1], share[2])));
            due("11: one alone, mode 0", x.answer(2, 4), share[2]);
            due("11: one alone, mode 1", x.answer(3, 4), share[1]);
        }
    }

    /** 11: RIGHT, if X modulo 100 is below 100 less what HARD is above what it HAS (0 at least). */
    private static void rightBelowTheLine() {
        for (int hundredth : new int[] {0, 1, 49, 50, 98, 99}) {
            int seed = seedOf(hundredth);
            for (int hard : new int[] {0, 1, 50, 99, 100}) {
                for (int had : new int[] {0, 1, 50, 99, 100}) {
                    StarDays x = Checks.with(1, 1);
                    x.task(1, 0, hard);
                    x.share(0, 0, had);
                    x.seed(seed);
                    int above = hard > had ? hard - had : 0;
                    int right = hundredth < 100 - above ? 1 : 0;
                    due("11: " + hundredth + " of 100, hard " + hard + ", had " + had, x.does(0, 0), right);
                    due("11: it is told", x.answer(0, 3), right);
                }
            }
        }
    }

    /** A seed behind which such a draw of hundred comes. */
    private static int seedOf(int hundredth) {
        int seed = 0;
        while ((25173L * seed + 13849) % 65536 % 100 != hundredth) {
            seed++;
        }
        return seed;
    }

    /** 11: X = (25173 X + 13849) modulo 65536, at each doing. */
    private static void drawsRunOn() {
        StarDays x = Checks.with(1, 1);
        x.task(1, 0, 0);
        long draw = 65535;
        x.seed(65535);
        for (int i = 0; i < 150; i++) {
            draw = (25173 * draw + 13849) % 65536;
            x.does(0, 0);
            due("11: X of doing " + i, x.count(7), draw);
        }
    }

    private static void lawIsAskedAheadOfTheDoing() {
        StarDays x = Checks.with(1, 1);
        x.task(1, 0, 0);
        Checks.tellLaw(x, 0, "g7(n=0&a=0&d=300&b=0);g8(n=1&a=1&d=0)");
        x.does(0, 0);
        x.does(0, 0);
        x.does(0, 0);
        due("11: ahead of the first", x.answer(0, 4), 7);
        due("11: ahead of the second", x.answer(1, 4), 8);
        due("11: ahead of the third", x.answer(2, 4), 0);
    }

    /** 12: NONE: no such ones. */
    private static void noSuchTelling() {
        for (int no : noHeads()) {
            refused("12: told by head " + no, x -> x.told(no, 0, 9, 1));
        }
        for (int no : noTasks()) {
            refused("12: told of task " + no, x -> x.told(0, no, 9, 1));
        }
        for (int no : new int[] {MIN, -1, 2, MAX}) {
            refused("12: told so right: " + no, x -> x.told(0, 0, 9, no));
        }
        for (int no : new int[] {MIN, -1, 0, 4, 10, 299, 300, MAX}) {
            refused("12: told of day " + no, x -> x.told(0, 0, no, 1));
        }
    }

    /** 12: a DAY from that of the latest ANSWER to NOW. */
    private static void toldDays() {
        StarDays x = Worlds.small();
        due("12: that of the latest", x.told(0, 0, 5, 1), 4);
        due("12: between", x.told(1, 0, 7, 0), 5);
        due("12: the latest is of the other head now", x.told(0, 0, 6, 1), -1);
        due("12: now", x.told(0, 2, 9, 1), 6);
        due("12: that of the latest, now", x.told(0, 2, 9, 1), 7);
        due("12: ahead of it", x.told(0, 2, 8, 1), -1);
        due("12: behind now", x.told(0, 2, 10, 1), -1);
        StarDays y = Checks.with(1, 1);
        y.task(1, 0, 0);
        due("12: day -1 of no answers", y.told(0, 0, -1, 1), -1);
        due("12: day 1 of now 0", y.told(0, 0, 1, 1), -1);
        y.now(299);
        due("12: day 300", y.told(0, 0, 300, 1), -1);
        due("12: day 0 of no answers", y.told(0, 0, 0, 0), 0);
        y.does(0, 0);
        due("12: a played one is the latest, too", y.told(0, 0, 298, 0), -1);
        due("12: its day", y.told(0, 0, 299, 0), 2);
    }

    /** 12: its number; NONE: 200 are there. */
    private static void twoHundredAnswersTold() {
        StarDays x = Checks.with(1, 1);
        x.task(1, 0, 0);
        for (int i = 0; i < 200; i++) {
            due("12: told", x.told(0, 0, 0, 1), i);
        }
        due("12: a 201st", x.told(0, 0, 0, 1), -1);
        due("12: a 201st played", x.does(0, 0), -1);
        due("12: count(4)", x.count(4), 200);
        due("12: can(0, 0, 0)", x.can(0, 0, 0), 200);
        due("12: X", x.count(7), 1);
        refusedByFull("12: told of a full object", y -> y.told(0, 0, 299, 1));
    }

    /** 12: it HAD NONE; no draw; the HEAD has done that TASK then. */
    private static void toldHasNoneAndDrawsNot() {
        StarDays x = Checks.with(1, 2);
        x.task(1, 0, 0);
        x.task(1, 0, 0);
        x.now(8);
        x.told(0, 0, 3, 0);
        due("12: it had", x.answer(0, 4), -1);
        due("12: X", x.count(7), 1);
        Checks.tellLaw(x, 0, "g9(n=1&d=5&b=0&a=1);g8(n=0&d=300&b=0&a=1);g7(a=0)");
        due("12: done then", x.gives(0, 0, 0), 9);
        due("12: another task", x.gives(0, 1, 0), 8);
        due("12: another head", x.gives(1, 0, 0), 7);
    }

    /** 13: NONE for others. */
    private static void noSuchAnswer() {
        for (int no : new int[] {MIN, -1, 4, 199, 200, MAX}) {
            refused("13: answer(" + no + ", 0)", x -> x.answer(no, 0));
        }
        for (int no : new int[] {MIN, -1, 5, 6, MAX}) {
            refused("13: answer(0, " + no + ")", x -> x.answer(0, no));
        }
        refusedByFull("13: answer(200, 0)", x -> x.answer(200, 0));
        due("13: answer(0, 0) of none", Checks.with(1, 1).answer(0, 0), -1);
    }

    private static void eachAnswer() {
        StarDays x = Checks.with(6, 6);
        for (int t = 0; t < 8; t++) {
            x.task(100000, 0, 0);
        }
        x.now(299);
        x.told(0, 0, 0, 1);
        x.told(5, 7, 298, 0);
        x.share(5, 5, 0);
        x.does(5, 7);
        x.does(0, 7);
        int[][] rows = {{0, 0, 0, 1, -1}, {5, 7, 298, 0, -1}, {5, 7, 299, 1, 0}, {0, 7, 299, 1, 100}};
        for (int i = 0; i < rows.length; i++) {
            for (int what = 0; what < 5; what++) {
                due("13: answer(" + i + ", " + what + ")", x.answer(i, what), rows[i][what]);
            }
        }
    }

    /** 14: NONE for others. */
    private static void noSuchAbility() {
        for (int no : noHeads()) {
            refused("14: can(" + no + ", 0, 0)", x -> x.can(no, 0, 0));
        }
        for (int no : noTasks()) {
            refused("14: can(0, " + no + ", 0)", x -> x.can(0, no, 0));
        }
        for (int no : new int[] {MIN, -1, 3, MAX}) {
            refused("14: can(0, 0, " + no + ")", x -> x.can(0, 0, no));
        }
    }

    /** 14: more than half of its ANSWERS, fewer than half; else it is not known. */
    private static void moreThanHalf() {
        int[][] rows = {{0, 0, 2}, {0, 1, 0}, {1, 1, 1}, {1, 2, 2}, {1, 3, 0}, {2, 3, 1}, {2, 4, 2}, {50, 100, 2},
            {49, 99, 0}, {50, 99, 1}, {99, 200, 0}, {100, 200, 2}, {101, 200, 1}, {0, 200, 0}, {200, 200, 1}};
        for (int[] row : rows) {
            StarDays x = Checks.with(1, 2);
            x.task(1, 0, 0);
            x.task(1, 0, 0);
            Checks.tellAnswers(x, 1, 1, row[0], row[1]);
            due("14: how many answers", x.can(1, 1, 0), row[1]);
            due("14: how many right", x.can(1, 1, 1), row[0]);
            due("14: " + row[0] + " of " + row[1], x.can(1, 1, 2), row[2]);
            due("14: another task", x.can(1, 0, 2), 2);
            due("14: another head", x.can(0, 1, 2), 2);
        }
    }

    /** 15: NONE: no such ones, one twice. */
    private static void noSuchOdds() {
        for (int no : noHeads()) {
            refused("15: worse(" + no + ", 1, 0, 0)", x -> x.worse(no, 1, 0, 0));
            refused("15: worse(0, " + no + ", 0, 0)", x -> x.worse(0, no, 0, 0));
        }
        for (int no : noTasks()) {
            refused("15: worse(0, 1, " + no + ", 0)", x -> x.worse(0, 1, no, 0));
        }
        for (int no : new int[] {MIN, -1, 2, MAX}) {
            refused("15: worse(0, 1, 0, " + no + ")", x -> x.worse(0, 1, 0, no));
            refused("15: NONE ahead of -2", x -> x.worse(0, 1, 2, no));
        }
        refused("15: worse(0, 0, 0, 0)", x -> x.worse(0, 0, 0, 0));
        refused("15: worse(1, 1, 0, 1)", x -> x.worse(1, 1, 0, 1));
        refused("15: one twice, ahead of -2", x -> x.worse(1, 1, 2, 1));
    }

    /** An object in which heads 0 and 1 have so many answers, right ones first, to task 0. */
    private static StarDays two(int firstRight, int firstAll, int secondRight, int secondAll) {
        StarDays x = Checks.with(1, 2);
        x.task(1, 0, 0);
        x.task(1, 0, 0);
        Checks.tellAnswers(x, 0, 0, firstRight, firstAll);
        Checks.tellAnswers(x, 1, 0, secondRight, secondAll);
        return x;
    }

    private static void odds(StarDays x, int first, int second, long above, long below) {
        due("15: above", x.worse(first, second, 0, 0), above);
        due("15: below", x.worse(first, second, 0, 1), below);
    }

    /** 15: -2: one has no ANSWERS. */
    private static void oddsOfNone() {
        odds(two(0, 0, 0, 0), 0, 1, -2, -2);
        odds(two(1, 2, 0, 0), 0, 1, -2, -2);
        odds(two(1, 2, 0, 0), 1, 0, -2, -2);
        odds(two(0, 0, 1, 2), 0, 1, -2, -2);
        odds(two(0, 1, 0, 1), 0, 1, 1, 1);
        odds(two(0, 1, 1, 1), 0, 1, 1, 2);
        odds(two(0, 1, 1, 1), 1, 0, 1, 1);
        odds(two(1, 1, 1, 1), 0, 1, 1, 1);
        Worlds.refused(CHECKS, "15: -2 changes nothing", Worlds.small(), x -> x.worse(0, 1, 2, 0), -2);
    }

    /** 15: 25 each at most; -2: more than 25. */
    private static void oddsOf25() {
        odds(two(0, 25, 25, 25), 0, 1, 1, 126410606437752L);
        odds(two(0, 25, 25, 25), 1, 0, 1, 1);
        odds(two(0, 26, 25, 25), 0, 1, -2, -2);
        odds(two(0, 25, 26, 26), 0, 1, -2, -2);
        odds(two(0, 26, 0, 0), 0, 1, -2, -2);
        odds(two(0, 100, 100, 100), 0, 1, -2, -2);
        odds(two(25, 25, 0, 1), 0, 1, 1, 1);
        odds(two(24, 25, 1, 1), 0, 1, 25, 26);
    }

    /** 15: above, below the line, without a common divisor: against sums of its own. */
    private static void oddsWithoutCommonDivisor() {
        int[][] rows = {{1, 5, 3, 4}, {0, 3, 3, 3}, {2, 4, 2, 4}, {12, 25, 13, 25}, {12, 25, 14, 25}, {5, 24, 20, 25},
            {0, 25, 1, 25}, {1, 25, 24, 25}, {24, 25, 25, 25}, {0, 5, 0, 5}, {5, 5, 5, 5}, {3, 7, 11, 19}};
        for (int[] row : rows) {
            StarDays x = two(row[0], row[1], row[2], row[3]);
            int right = row[0] + row[2];
            BigInteger few = BigInteger.ZERO;
            for (int i = 0; i <= row[0]; i++) {
                few = few.add(ways(row[1], i).multiply(ways(row[3], right - i)));
            }
            BigInteger all = ways(row[1] + row[3], right);
            BigInteger divisor = few.gcd(all);
            odds(x, 0, 1, few.divide(divisor).longValueExact(), all.divide(divisor).longValueExact());
        }
    }

    /** By Pascal's rows. */
    private static BigInteger ways(int all, int taken) {
        if (taken < 0) {
            return BigInteger.ZERO;
        }
        BigInteger[] row = new BigInteger[taken + 1];
        Arrays.fill(row, BigInteger.ZERO);
        row[0] = BigInteger.ONE;
        for (int i = 0; i < all; i++) {
            for (int j = taken; j > 0; j--) {
                row[j] = row[j].add(row[j - 1]);
            }
        }
        return row[taken];
    }

    private static void oddsAreFractionsOfOneAtMost() {
        for (int right = 0; right <= 5; right++) {
            StarDays x = two(right, 5, 5 - right, 5);
            due("15: not above 1", x.worse(0, 1, 0, 0) <= x.worse(0, 1, 0, 1) ? 1 : 0, 1);
            due("15: above 0", x.worse(0, 1, 0, 0) > 0 ? 1 : 0, 1);
        }
    }

    /** 16: (1 to 1000); NONE: no such ones, one twice. */
    private static void noSuchParting() {
        for (int no : noHeads()) {
            refused("16: parted(" + no + ", 1, 0, 1, 50)", x -> x.parted(no, 1, 0, 1, 50));
            refused("16: parted(0, " + no + ", 0, 1, 50)", x -> x.parted(0, no, 0, 1, 50));
        }
        for (int no : noTasks()) {
            refused("16: parted(0, 1, " + no + ", 1, 50)", x -> x.parted(0, 1, no, 1, 50));
            refused("16: parted(0, 1, 0, " + no + ", 50)", x -> x.parted(0, 1, 0, no, 50));
        }
        for (int no : new int[] {MIN, -1, 0, 1001, MAX}) {
            refused("16: parted(0, 1, 0, 1, " + no + ")", x -> x.parted(0, 1, 0, 1, no));
        }
        refused("16: a head twice", x -> x.parted(1, 1, 0, 1, 50));
        refused("16: a task twice", x -> x.parted(0, 1, 2, 2, 50));
    }

    /** 16: the ODDS are not above them. */
    private static void partedAtTheLine() {
        // 0 of 3 against 3 of 3: 1 of 20.
        StarDays x = two(0, 3, 3, 3);
        Checks.tellAnswers(x, 0, 1, 1, 1);
        Checks.tellAnswers(x, 1, 1, 1, 1);
        due("16: 1 of 20 by 49", x.parted(0, 1, 0, 1, 49), 0);
        due("16: 1 of 20 by 50", x.parted(0, 1, 0, 1, 50), 1);
        due("16: 1 of 20 by 51", x.parted(0, 1, 0, 1, 51), 1);
        due("16: from the other end", x.parted(1, 0, 0, 1, 50), 0);
        due("16: worse at neither", x.parted(0, 1, 1, 0, 50), 0);
        // 0 of 1 against 1 of 1: 1 of 2.
        StarDays y = two(0, 1, 1, 1);
        due("16: 1 of 2 by 499", y.parted(0, 1, 0, 1, 499), 0);
        due("16: 1 of 2 by 500", y.parted(0, 1, 0, 1, 500), 1);
        // 0 of 2 against 1 of 1: 1 of 3.
        StarDays z = two(0, 2, 1, 1);
        due("16: 1 of 3 by 333", z.parted(0, 1, 0, 1, 333), 0);
        due("16: 1 of 3 by 334", z.parted(0, 1, 0, 1, 334), 1);
    }

    /** 16: by so many thousandths (1 to 1000). */
    private static void partedByOneAndByThousand() {
        // 0 of 6 against 6 of 6: 1 of 924; 0 of 6 against 7 of 7: 1 of 1716.
        due("16: 1 of 924 by 1", two(0, 6, 6, 6).parted(0, 1, 0, 1, 1), 0);
        due("16: 1 of 924 by 2", two(0, 6, 6, 6).parted(0, 1, 0, 1, 2), 1);
        due("16: 1 of 1716 by 1", two(0, 6, 7, 7).parted(0, 1, 0, 1, 1), 1);
        due("16: 1 of C(50,25) by 1", two(0, 25, 25, 25).parted(0, 1, 0, 1, 1), 1);
        due("16: 1 by 1000", two(1, 1, 0, 1).parted(0, 1, 0, 1, 1000), 1);
        due("16: 1 by 999", two(1, 1, 0, 1).parted(0, 1, 0, 1, 999), 0);
    }

    /** 16: without ANSWERS of one of both: not worse. */
    private static void partedWithoutAnswers() {
        due("16: none at all", two(0, 0, 0, 0).parted(0, 1, 0, 1, 1000), 0);
        due("16: x has none", two(0, 0, 1, 1).parted(0, 1, 0, 1, 1000), 0);
        due("16: y has none", two(0, 1, 0, 0).parted(0, 1, 0, 1, 1000), 0);
        StarDays x = two(0, 1, 1, 1);
        due("16: none at b", x.parted(0, 1, 0, 1, 1000), 1);
        due("16: none at a", x.parted(0, 1, 1, 0, 1000), 0);
        Checks.tellAnswers(x, 0, 1, 1, 1);
        due("16: y has none at b", x.parted(0, 1, 0, 1, 1000), 1);
        Checks.tellAnswers(x, 1, 1, 1, 1);
        due("16: worse at both by 1000", x.parted(0, 1, 0, 1, 1000), 0);
    }

    /** 16: with more than 25 ANSWERS of one of them none IS WORSE. */
    private static void partedOfMoreThan25() {
        due("16: x has 25", two(0, 25, 3, 3).parted(0, 1, 0, 1, 50), 1);
        due("16: x has 26", two(0, 26, 3, 3).parted(0, 1, 0, 1, 50), 0);
        due("16: y has 25", two(0, 3, 25, 25).parted(0, 1, 0, 1, 50), 1);
        due("16: y has 26", two(0, 3, 26, 26).parted(0, 1, 0, 1, 50), 0);
        StarDays x = two(0, 3, 3, 3);
        Checks.tellAnswers(x, 0, 1, 0, 25);
        Checks.tellAnswers(x, 1, 1, 3, 3);
        due("16: x has 25 at b", x.parted(0, 1, 0, 1, 50), 0);
        Checks.tellAnswers(x, 0, 1, 0, 1);
        due("16: x has 26 at b", x.parted(0, 1, 0, 1, 50), 1);
        due("16: not crossed by it", x.parted(1, 0, 1, 0, 50), 0);
    }

    /** 16: CROSSED: PARTED, and b and a by y against x. */
    private static void crossed() {
        StarDays x = two(0, 3, 3, 3);
        Checks.tellAnswers(x, 0, 1, 3, 3);
        Checks.tellAnswers(x, 1, 1, 0, 2);
        due("16: y has too few at b", x.parted(0, 1, 0, 1, 50), 1);
        due("16: by 100", x.parted(0, 1, 0, 1, 100), 2);
        due("16: by 99", x.parted(0, 1, 0, 1, 99), 1);
        due("16: from the other end", x.parted(1, 0, 1, 0, 100), 2);
        due("16: from the other end by 99", x.parted(1, 0, 1, 0, 99), 0);
        due("16: the tasks the other way", x.parted(0, 1, 1, 0, 100), 0);
        Checks.tellAnswers(x, 1, 1, 0, 1);
        due("16: by 50", x.parted(0, 1, 0, 1, 50), 2);
        due("16: by 49", x.parted(0, 1, 0, 1, 49), 0);
    }
}
