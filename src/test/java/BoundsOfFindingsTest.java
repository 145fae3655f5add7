/** Each sentence of promises 17 to 30, and of the terms that they speak of, that names a boundary case. */
public final class BoundsOfFindingsTest {
    private static final Checks CHECKS = new Checks("BoundsOfFindingsTest");
    private static final int MIN = Integer.MIN_VALUE;
    private static final int MAX = Integer.MAX_VALUE;

    public static void main(String[] args) {
        fewestOfNothing();
        fewestFourAtMost();
        fewestPlaceThatIsNotThere();
        fewestOfSixHeadsAtEightTasks();
        fewestLeastRow();
        fewestTasksNoneCanDo();
        noSuchLack();
        lacksOfLikeOnes();
        lacksOfAllStores();
        lacksByMode();
        noSuchNext();
        nextWithoutTasks();
        nextGuessOfNoStores();
        nextOfLikeOnes();
        nextByTwoAndSix();
        noSuchPurest();
        purestOfLikeOnes();
        noSuchOld();
        fortyOldThings();
        noSuchBack();
        backFromEndToEnd();
        backTakesMoreThanHalf();
        backFirstAndLast();
        noSuchLast();
        lastsNotEvenForNothing();
        lastsToHundred();
        lastsByTheNumbersTold();
        noSuchMistakes();
        twelveMistakesOfEach();
        noSuchCurve();
        betterIsNotMore();
        asOthersFromLeastToGreatest();
        noSuchAsking();
        asksFromFirstToNow();
        noSuchUnasked();
        unaskedDays();
        againOfNone();
        againAsNow();
        checkHasNotSoMany();
        checkFirstThatIsNotSo();
        checkSomeAreLacking();
        checkOfTheMost();
        countForOthers();
        CHECKS.end();
    }

    private static void due(String call, long got, long want) {
        CHECKS.due(call, got, want);
    }

    private static void due(String call, boolean got, boolean want) {
        CHECKS.due(call, got, want);
    }

    private static void refused(String call, Worlds.Call made) {
        Worlds.refused(CHECKS, call, made, -1);
    }

    private static int[] noHeads() {
        return new int[] {MIN, -1, 2, 5, 6, MAX};
    }

    private static int[] noTasks() {
        return new int[] {MIN, -1, 3, 7, 8, MAX};
    }

    private static int[] noStores() {
        return new int[] {MIN, -1, 2, 5, 6, MAX};
    }

    /** So many heads, one store and so many tasks by it. */
    private static StarDays heads(int heads, int tasks) {
        StarDays x = Checks.with(1, heads);
        for (int t = 0; t < tasks; t++) {
            x.task(1, 0, 0);
        }
        return x;
    }

    /** Each row is a head's: for each task + right, - wrong, . no answer. */
    private static StarDays answered(String... rows) {
        StarDays x = heads(rows.length, rows[0].length());
        for (int h = 0; h < rows.length; h++) {
            for (int t = 0; t < rows[h].length(); t++) {
                if (rows[h].charAt(t) != '.') {
                    x.told(h, t, 0, rows[h].charAt(t) == '+' ? 1 : 0);
                }
            }
        }
        return x;
    }

    /** The whole of what fewest() tells: how many, then heads and tasks of each. */
    private static void fewestIs(StarDays x, int... row) {
        due("17: how many", x.fewest(-1), row.length / 2);
        for (int place = 0; place < row.length; place++) {
            due("17: fewest(" + place + ")", x.fewest(place), row[place]);
        }
        for (int place = row.length; place <= 9; place++) {
            due("17: fewest(" + place + ") is not there", x.fewest(place), -1);
        }
        due("17: fewest(MAX)", x.fewest(MAX), -1);
        due("17: fewest(-2)", x.fewest(-2), -1);
        due("17: fewest(MIN)", x.fewest(MIN), -1);
    }

    private static void fewestOfNothing() {
        fewestIs(new StarDays());
        fewestIs(Checks.with(6, 6));
        fewestIs(heads(6, 8));
        fewestIs(answered("++", "+."));
        fewestIs(answered("-"), 1, 1);
    }

    /** 17: (4 at most); -2: four do not do. */
    private static void fewestFourAtMost() {
        fewestIs(answered("-+++", "+-++", "++-+", "+++-"), 1, 1, 2, 2, 4, 4, 8, 8);
        StarDays x = answered("-++++", "+-+++", "++-++", "+++-+", "++++-");
        for (int place : new int[] {-1, 0, 1, 6, 7, 8, 9, 100}) {
            Worlds.refused(CHECKS, "17: five would do, " + place, x, y -> y.fewest(place), -2);
        }
        due("17: below NONE", x.fewest(-2), -1);
        due("17: below NONE", x.fewest(MIN), -1);
        // As soon as heads 0 and 1 can't do both their tasks, one store does for the two.
        Checks.tellAnswers(x, 0, 1, 0, 2);
        due("17: five still", x.fewest(-1), -2);
        Checks.tellAnswers(x, 1, 0, 0, 2);
        fewestIs(x, 3, 3, 4, 4, 8, 8, 16, 16);
    }

    /** 17: NONE of a place that is not there behind -2. */
    private static void fewestPlaceThatIsNotThere() {
        for (int place : new int[] {MIN, -2, 4, 5, 8, MAX}) {
            StarDays x = answered("-+", "+-");
            Worlds.refused(CHECKS, "17: fewest(" + place + ") of two", x, y -> y.fewest(place), -1);
        }
        due("17: fewest(3) of two", answered("-+", "+-").fewest(3), 2);
    }

    private static void fewestOfSixHeadsAtEightTasks() {
        fewestIs(answered("--------", "--------", "--------", "--------", "--------", "--------"), 63, 255);
        fewestIs(answered("+++++++-", "+++++++.", "+++++++.", "+++++++.", "+++++++.", "+++++++-"), 33, 128);
        fewestIs(answered("-+++++++", "-+++++++", "-+++++++", "+++++++-", "+++++++-", "+++++++-"), 7, 1, 56, 128);
        fewestIs(answered("-.......", "-.......", "-.......", ".......-", ".......-", ".......-"), 63, 255);
    }

    /** 17: of like ones the least row of sets of HEADS (growing, as bits). */
    private static void fewestLeastRow() {
        // A head of whom nothing is known may lack it or not: the least set leaves it out.
        fewestIs(answered("..", "-.", ".."), 2, 3);
        fewestIs(answered("-.", "..", "-."), 5, 3);
        // Head 0 can do what head 1 can't, and the other way: head 2 can't do both, and so lacks both.
        fewestIs(answered("-+.", "+-.", "--."), 5, 5, 6, 6);
        // Either of the two may be what head 2 lacks: of the rows 1 6, 2 5 and 5 6 the first is least.
        fewestIs(answered("-+.", "+-.", "..-"), 1, 5, 6, 6);
        // The same by three stores: of the rows 1 2 12, 1 4 10, 2 4 9 and those of more heads the first.
        fewestIs(answered("-++.", "+-+.", "++-.", "...-"), 1, 9, 2, 10, 12, 12);
    }

    /** 17: each with all TASKS that none of these HEADS can do: those of which it is not known, too. */
    private static void fewestTasksNoneCanDo() {
        fewestIs(answered("-.+", "...", "-++"), 5, 1);
        fewestIs(answered("-.+", "...", "+++"), 1, 3);
        StarDays x = answered("-+.", "...");
        x.told(0, 1, 0, 0);
        fewestIs(x, 1, 7);
        x.told(0, 1, 0, 1);
        fewestIs(x, 1, 5);
    }

    /** 18: NONE: no such ones. */
    private static void noSuchLack() {
        for (int no : noHeads()) {
            refused("18: lacks(" + no + ", 0)", x -> x.lacks(no, 0));
        }
        for (int no : new int[] {MIN, -1, 2, MAX}) {
            refused("18: lacks(0, " + no + ")", x -> x.lacks(0, no));
        }
    }

    private static void lacksIs(StarDays x, int h, int set, int otherwise) {
        due("18: the set of head " + h, x.lacks(h, 0), set);
        due("18: otherwise of head " + h, x.lacks(h, 1), otherwise);
    }

    /** 18: of like ones the fewest STORES, then the least set. */
    private static void lacksOfLikeOnes() {
        StarDays x = Checks.with(4, 2);
        lacksIs(x, 0, 0, 0);
        x.task(1111, 0, 0);
        x.task(1110, 0, 0);
        x.task(1100, 0, 0);
        x.task(11, 0, 0);
        x.told(0, 0, 0, 0);
        lacksIs(x, 0, 1, 0);
        x.told(0, 1, 0, 0);
        lacksIs(x, 0, 2, 0);
        x.told(0, 2, 0, 0);
        lacksIs(x, 0, 4, 0);
        x.told(0, 3, 0, 0);
        // One of 2 and 3 for tasks 0 to 2, and one of 0 and 1 for task 3.
        lacksIs(x, 0, 5, 0);
        x.told(0, 3, 0, 1);
        // As many this way as that: fewer stores, of these the least.
        lacksIs(x, 0, 4, 1);
        x.told(0, 3, 0, 1);
        lacksIs(x, 0, 4, 1);
        lacksIs(x, 1, 0, 0);
        // One right and one wrong: none lacking is as good as all.
        x.told(1, 0, 0, 1);
        x.told(1, 0, 0, 0);
        lacksIs(x, 1, 0, 1);
        x.told(1, 0, 0, 0);
        lacksIs(x, 1, 1, 1);
    }

    private static void lacksOfAllStores() {
        StarDays x = Checks.with(6, 6);
        x.task(1, 0, 0);
        x.task(10, 0, 0);
        x.task(100, 0, 0);
        x.task(1000, 0, 0);
        x.task(10000, 0, 0);
        x.task(100000, 0, 0);
        x.task(111111, 1, 0);
        for (int t = 0; t < 6; t++) {
            x.told(5, t, 0, 0);
        }
        lacksIs(x, 5, 63, 0);
        x.told(5, 6, 0, 0);
        lacksIs(x, 5, 63, 0);
        x.told(5, 6, 0, 1);
        lacksIs(x, 5, 63, 1);
        x.told(5, 6, 0, 1);
        // Now the task that one of them is enough for is right more often: the first store is there.
        lacksIs(x, 5, 31, 2);
        lacksIs(x, 0, 0, 0);
    }

    /** 18: MODE 0 all that it uses, 1 one of them. */
    private static void lacksByMode() {
        StarDays x = Checks.with(2, 3);
        x.task(11, 0, 0);
        x.task(11, 1, 0);
        x.told(0, 0, 0, 0);
        x.told(0, 1, 0, 1);
        lacksIs(x, 0, 1, 0);
        x.told(1, 0, 0, 0);
        x.told(1, 1, 0, 0);
        lacksIs(x, 1, 3, 0);
        x.told(2, 0, 0, 1);
        x.told(2, 1, 0, 0);
        lacksIs(x, 2, 0, 1);
    }

    /** 19: 2 to 6; NONE: no such ones, it has not so many (the tape stays). */
    private static void noSuchNext() {
        for (int no : new int[] {MIN, -1, 0, 1, 7, 20, MAX}) {
            refused("19: next(" + no + ", 0)", x -> x.next(no, 0));
        }
        for (int no : new int[] {MIN, -1, 2, MAX}) {
            refused("19: next(2, " + no + ")", x -> x.next(2, no));
        }
        Worlds.refused(CHECKS, "19: of an empty tape", Worlds.smallOfEmptyTape(), x -> x.next(2, 0), -1);
    }

    /** 19: -2: there are no TASKS; NONE is told first. */
    private static void nextWithoutTasks() {
        StarDays x = Checks.with(2, 1);
        Checks.feedBytes(x, 1, 2);
        due("19: no such n", x.next(1, 0), -1);
        due("19: no such n", x.next(7, 0), -1);
        due("19: no such what", x.next(2, 2), -1);
        due("19: the tape stays", x.count(6), 20);
        due("19: no tasks", x.next(2, 0), -2);
        due("19: empty then", x.count(6), 0);
        due("19: it has not so many", x.next(2, 0), -1);
        Checks.feedBytes(x, 1, 2, 3, 0, 1, 2);
        due("19: no tasks, how many pairs", x.next(6, 1), -2);
        Checks.feedBytes(x, 1, 4);
        due("19: a store that is not there", x.next(2, 0), -1);
        due("19: empty then", x.count(6), 0);
    }

    private static int next(StarDays x, int what, int... guesses) {
        Checks.feedBytes(x, guesses);
        int answer = x.next(guesses.length, what);
        due("19: empty then", x.count(6), 0);
        return answer;
    }

    /** 19: NONE: a GUESS has STORES that there are not (the tape is empty). */
    private static void nextGuessOfNoStores() {
        for (int stores = 1; stores <= 6; stores++) {
            StarDays x = Checks.with(stores, 0);
            x.task(1, 0, 0);
            int all = (1 << stores) - 1;
            due("19: all of " + stores, next(x, 1, all, 0), 1);
            due("19: one more than all of " + stores, next(x, 1, all + 1, 0), -1);
            due("19: in the last place", next(x, 1, 0, 0, 0, 0, 0, all + 1), -1);
            due("19: 128", next(x, 1, 0, 128), -1);
            due("19: 255", next(x, 1, 0, 255), -1);
            Checks.feedBytes(x, 0, 1, 255);
            due("19: behind the guesses it does not matter", x.next(2, 1), 1);
        }
    }

    /** 19: of like ones the lowest. */
    private static void nextOfLikeOnes() {
        StarDays x = Checks.with(2, 0);
        for (int t = 0; t < 8; t++) {
            x.task(t < 3 ? 1 : 10, 0, 0);
        }
        due("19: no pair", next(x, 0, 3, 3, 3), 0);
        due("19: no pair", next(x, 1, 3, 3, 3), 0);
        due("19: like ones", next(x, 0, 0, 3), 0);
        due("19: by the second store alone", next(x, 0, 0, 2), 3);
        due("19: by the first store alone", next(x, 0, 0, 1), 0);
        due("19: three pairs against four", next(x, 0, 0, 2, 3, 1), 0);
        due("19: two of two", next(x, 1, 0, 2, 3, 1), 4);
        due("19: more by the second", next(x, 0, 0, 1, 2, 2), 3);
        StarDays last = Checks.with(2, 0);
        for (int t = 0; t < 8; t++) {
            last.task(t < 7 ? 1 : 10, 0, 0);
        }
        due("19: the last of eight", next(last, 0, 0, 2), 7);
    }

    /** 19: of so many GUESSES (2 to 6). */
    private static void nextByTwoAndSix() {
        StarDays x = Checks.with(6, 0);
        x.task(100000, 0, 0);
        due("19: two guesses, no pair", next(x, 1, 0, 0), 0);
        due("19: two guesses", next(x, 1, 0, 32), 1);
        due("19: three", next(x, 1, 0, 32, 63), 2);
        due("19: four", next(x, 1, 0, 32, 63, 31), 4);
        due("19: five", next(x, 1, 0, 32, 63, 31, 1), 6);
        due("19: six", next(x, 1, 0, 32, 63, 31, 1, 33), 9);
        due("19: six", next(x, 1, 0, 0, 0, 0, 0, 63), 5);
    }

    /** 20: NONE: no such one, none uses it. */
    private static void noSuchPurest() {
        for (int no : noStores()) {
            refused("20: purest(" + no + ")", x -> x.purest(no));
        }
        Worlds.refused(CHECKS, "20: no tasks", Checks.with(1, 1), x -> x.purest(0), -1);
        StarDays x = Checks.with(6, 1);
        x.task(11111, 0, 0);
        Worlds.refused(CHECKS, "20: none uses it", x, y -> y.purest(5), -1);
        due("20: 1 of 5", x.purest(4), 0);
    }

    /** 20: the least part of all that it uses being others'; of like ones the lowest. */
    private static void purestOfLikeOnes() {
        StarDays x = Checks.with(6, 1);
        x.task(999991, 0, 0);
        due("20: 1 of 46", x.purest(0), 0);
        x.task(888891, 1, 0);
        due("20: 1 of 42", x.purest(0), 1);
        x.task(21, 0, 0);
        x.task(42, 0, 0);
        x.task(63, 1, 100);
        due("20: 1 of 3, 2 of 6, 3 of 9", x.purest(0), 2);
        due("20: 2 of 3, 4 of 6, 6 of 9", x.purest(1), 2);
        x.task(2, 0, 0);
        x.task(9, 0, 0);
        due("20: nothing of others", x.purest(0), 5);
        x.task(98, 0, 0);
        due("20: 9 of 17 against 2 of 3", x.purest(1), 2);
        due("20: 8 of 42 against 9 of 46", x.purest(5), 0);
    }

    /** 21: a YEAR (0 to 99), of ten so many (0 to 10), he knew it (1, 0). */
    private static void noSuchOld() {
        for (int no : new int[] {MIN, -1, 100, 101, MAX}) {
            refused("21: year " + no, x -> x.old(no, 5, 1));
        }
        for (int no : new int[] {MIN, -1, 11, MAX}) {
            refused("21: of ten " + no, x -> x.old(5, no, 1));
        }
        for (int no : new int[] {MIN, -1, 2, MAX}) {
            refused("21: he knew it " + no, x -> x.old(5, 5, no));
        }
        StarDays x = new StarDays();
        due("21: the least", x.old(0, 0, 0), 1);
        due("21: the greatest", x.old(99, 10, 1), 2);
    }

    /** 21: OLD THINGS (40 at most); NONE: 40 are there. */
    private static void fortyOldThings() {
        StarDays x = new StarDays();
        for (int i = 1; i <= 40; i++) {
            due("21: old", x.old(99, 10, 1), i);
            due("21: count(5)", x.count(5), i);
        }
        Worlds.refused(CHECKS, "21: a 41st", x, y -> y.old(0, 10, 0), -1);
        Worlds.refused(CHECKS, "21: a 41st of a full object", Worlds.full(), y -> y.old(0, 10, 0), -1);
    }

    /** 22: NONE for others. */
    private static void noSuchBack() {
        for (int no : new int[] {MIN, -1, 3, MAX}) {
            refused("22: back(" + no + ")", x -> x.back(no));
            Worlds.refused(CHECKS, "22: back(" + no + ") of none", new StarDays(), x -> x.back(no), -1);
        }
    }

    private static void backIs(StarDays x, int first, int last, int otherwise) {
        due("22: back(0)", x.back(0), first);
        due("22: back(1)", x.back(1), last);
        due("22: back(2)", x.back(2), otherwise);
    }

    /** Each thing is its year, how many of ten, and whether he knew it. */
    private static StarDays things(int[]... things) {
        StarDays x = new StarDays();
        for (int[] thing : things) {
            x.old(thing[0], thing[1], thing[2]);
        }
        return x;
    }

    /** 22: a YEAR Y (0 to 100). */
    private static void backFromEndToEnd() {
        backIs(things(), 0, 100, 0);
        backIs(things(new int[] {0, 10, 0}), 0, 0, 0);
        backIs(things(new int[] {0, 10, 1}), 1, 100, 0);
        backIs(things(new int[] {99, 10, 1}), 100, 100, 0);
        backIs(things(new int[] {99, 10, 0}), 0, 99, 0);
        backIs(things(new int[] {0, 10, 0}, new int[] {99, 10, 1}), 0, 100, 1);
        backIs(things(new int[] {50, 10, 0}, new int[] {50, 10, 1}), 0, 100, 1);
        backIs(things(new int[] {50, 10, 1}, new int[] {51, 10, 0}), 51, 51, 0);
        StarDays x = new StarDays();
        for (int i = 0; i < 40; i++) {
            x.old(99, 10, 1);
        }
        backIs(x, 100, 100, 0);
    }

    /** 22: those are taken that more than half of the ten knew. */
    private static void backTakesMoreThanHalf() {
        for (int ten = 0; ten <= 10; ten++) {
            backIs(things(new int[] {40, ten, 0}), 0, ten > 5 ? 40 : 100, 0);
            backIs(things(new int[] {40, ten, 1}), ten > 5 ? 41 : 0, 100, 0);
        }
        backIs(things(new int[] {40, 6, 0}, new int[] {60, 5, 1}), 0, 40, 0);
    }

    /** 22: the first and the last such Y, even if there are others between that are not. */
    private static void backFirstAndLast() {
        backIs(things(new int[] {20, 10, 1}, new int[] {40, 10, 0}, new int[] {60, 10, 1}), 21, 100, 1);
        backIs(things(new int[] {20, 10, 0}, new int[] {40, 10, 1}, new int[] {60, 10, 0}), 0, 60, 1);
        backIs(things(new int[] {20, 10, 1}, new int[] {40, 10, 0}, new int[] {60, 10, 1}, new int[] {60, 10, 1}), 61, 100, 1);
    }

    /** 23: (1 to 100); NONE: no such ones, the TASK does not use it. */
    private static void noSuchLast() {
        for (int no : noHeads()) {
            refused("23: lasts(" + no + ", 0, 0, 1)", x -> x.lasts(no, 0, 0, 1));
        }
        for (int no : noTasks()) {
            refused("23: lasts(0, " + no + ", 0, 1)", x -> x.lasts(0, no, 0, 1));
        }
        for (int no : noStores()) {
            refused("23: lasts(0, 0, " + no + ", 1)", x -> x.lasts(0, 0, no, 1));
        }
        for (int no : new int[] {MIN, -1, 0, 101, MAX}) {
            refused("23: lasts(0, 0, 0, " + no + ")", x -> x.lasts(0, 0, 0, no));
        }
        refused("23: lasts(0, 1, 1, 1), it is not used", x -> x.lasts(0, 1, 1, 1));
        StarDays x = Checks.with(2, 1);
        x.task(1, 0, 0);
        x.share(0, 0, 0);
        x.share(0, 1, 0);
        due("23: NONE ahead of -2", x.lasts(0, 0, 1, 1), -1);
        due("23: NONE ahead of -2", x.lasts(0, 0, 0, 101), -1);
        due("23: -2", x.lasts(0, 0, 0, 100), -2);
    }

    private static int lasts(String text, int share, int much) {
        StarDays x = Checks.with(1, 1);
        x.task(1, 0, 0);
        x.share(0, 0, share);
        if (!text.isEmpty()) {
            Checks.tellLaw(x, 0, text);
        }
        return x.lasts(0, 0, 0, much);
    }

    /** 23: -2: not even for 0. */
    private static void lastsNotEvenForNothing() {
        due("23: no text, no share", lasts("", 0, 1), -2);
        due("23: share 1 of 1", lasts("g1(1=1)", 1, 1), -2);
        due("23: never for 0", lasts("g100(b>0)", 100, 1), -2);
        due("23: 49 of 50", lasts("g49(1=1)", 100, 50), -2);
        due("23: 50 of 50", lasts("g50(1=1)", 100, 50), 100);
        due("23: for 0 alone", lasts("g50(b=0)", 100, 50), 0);
        due("23: share hundredths, rounded down", lasts("g99(1=1)", 50, 50), -2);
        due("23: share hundredths, rounded down", lasts("g99(1=1)", 50, 49), 100);
        Worlds.refused(CHECKS, "23: -2 changes nothing", Worlds.small(), x -> x.lasts(0, 0, 1, 41), -2);
    }

    /** 23: the greatest b (to 100) up to which it GIVES so much or more for all from 0 on. */
    private static void lastsToHundred() {
        due("23: no text", lasts("", 100, 100), 100);
        due("23: b below 99", lasts("g100(b<99)", 100, 1), 98);
        due("23: b below 100", lasts("g100(b<100)", 100, 1), 99);
        due("23: b below 101", lasts("g100(b<101)", 100, 1), 100);
        due("23: b below 102", lasts("g100(b<102)", 100, 1), 100);
        due("23: not 1, but 2 and all others", lasts("g0(b=1);g100(1=1)", 100, 1), 0);
        due("23: not 100", lasts("g0(b=100);g100(1=1)", 100, 1), 99);
        due("23: so much or more", lasts("g100-b(1=1)", 100, 50), 50);
        due("23: 1 at least", lasts("g100-b(1=1)", 100, 1), 99);
        due("23: 100", lasts("g100-b(1=1)", 100, 100), 0);
    }

    /** 23: n 1, d 0, a 1 more than b, on the DAY NOW, whatever it has done. */
    private static void lastsByTheNumbersTold() {
        StarDays x = Checks.with(1, 2);
        x.task(4, 0, 60);
        x.task(7, 0, 30);
        x.told(1, 1, 0, 1);
        x.told(1, 1, 0, 1);
        x.told(1, 0, 0, 1);
        x.now(299);
        x.share(1, 0, 90);
        Checks.tellLaw(x, 0, "g100(n=1&d=0&a=b+1&h=30&u=7&s=90&t=1&y=299)");
        due("23: by all letters", x.lasts(1, 1, 0, 90), 100);
        due("23: not more than its share", x.lasts(1, 1, 0, 91), -2);
        due("23: of a head that has done nothing", x.lasts(0, 1, 0, 1), -2);
        x.share(0, 0, 90);
        due("23: of a head that has done nothing", x.lasts(0, 1, 0, 90), 100);
        due("23: answers stay", x.count(4), 3);
        due("23: gives by what it did", x.gives(1, 1, 0), 0);
    }

    /** 24: MISTAKES (0 to 1000); NONE: no such ones. */
    private static void noSuchMistakes() {
        for (int no : noHeads()) {
            refused("24: mistakes(" + no + ", 0, 1)", x -> x.mistakes(no, 0, 1));
        }
        for (int no : noTasks()) {
            refused("24: mistakes(0, " + no + ", 1)", x -> x.mistakes(0, no, 1));
        }
        for (int no : new int[] {MIN, -1, 1001, MAX}) {
            refused("24: mistakes(0, 0, " + no + ")", x -> x.mistakes(0, 0, no));
        }
        due("24: 0", Worlds.small().mistakes(0, 0, 0), 3);
        due("24: 1000", Worlds.small().mistakes(0, 0, 1000), 3);
    }

    /** 24: 12 of each at most; NONE: 12 are there. */
    private static void twelveMistakesOfEach() {
        StarDays x = heads(6, 8);
        int[][] each = {{0, 0}, {0, 7}, {5, 0}, {5, 7}, {2, 3}};
        for (int[] one : each) {
            for (int i = 1; i <= 12; i++) {
                due("24: mistakes", x.mistakes(one[0], one[1], 1000 - i), i);
            }
            due("24: a 13th", x.mistakes(one[0], one[1], 0), -1);
            due("24: how many", x.curve(one[0], one[1], 2), 12);
            due("24: all twelve are a row", x.curve(one[0], one[1], 0), 12);
        }
        due("24: as others, of twelve places", x.curve(0, 0, 1), 12);
        eachItsOwn();
        due("24: of others none", x.curve(1, 0, 2), 0);
        due("24: of others none", x.curve(0, 1, 2), 0);
        Worlds.refused(CHECKS, "24: a 13th of a full object", Worlds.full(), y -> y.mistakes(0, 0, 0), -1);
    }

    /** 24: each head's at each task are its own: the row of better ones is of another length from one to the next. */
    private static void eachItsOwn() {
        StarDays x = heads(6, 8);
        for (int i = 0; i < 6; i++) {
            for (int h = 0; h < 6; h++) {
                for (int t = 0; t < 8; t++) {
                    x.mistakes(h, t, i <= (7 * h + 3 * t) % 6 ? 500 - i : 500 + i);
                }
            }
        }
        for (int h = 0; h < 6; h++) {
            for (int t = 0; t < 8; t++) {
                due("24: row of head " + h + " at task " + t, x.curve(h, t, 0), (7 * h + 3 * t) % 6 + 1);
            }
        }
    }

    /** 25: NONE for others. */
    private static void noSuchCurve() {
        for (int no : noHeads()) {
            refused("25: curve(" + no + ", 0, 0)", x -> x.curve(no, 0, 0));
        }
        for (int no : noTasks()) {
            refused("25: curve(0, " + no + ", 0)", x -> x.curve(0, no, 0));
        }
        for (int no : new int[] {MIN, -1, 3, MAX}) {
            refused("25: curve(0, 0, " + no + ")", x -> x.curve(0, 0, no));
        }
    }

    /** Mistakes of head 0, then of the others, at task 0. */
    private static StarDays curves(int[]... rows) {
        StarDays x = heads(6, 1);
        for (int h = 0; h < rows.length; h++) {
            for (int n : rows[h]) {
                x.mistakes(h, 0, n);
            }
        }
        return x;
    }

    private static int better(int... row) {
        StarDays x = curves(row);
        due("25: how many", x.curve(0, 0, 2), row.length);
        return x.curve(0, 0, 0);
    }

    /** 25: BETTER: the longest row of them in which none is more than the one ahead. */
    private static void betterIsNotMore() {
        due("25: none", better(), 0);
        due("25: one", better(1000), 1);
        due("25: one of 0", better(0), 1);
        due("25: more", better(0, 1), 1);
        due("25: like ones", better(7, 7), 2);
        due("25: fewer", better(1000, 0), 2);
        due("25: the first row is the longest", better(3, 2, 1, 2, 1), 3);
        due("25: the last row is the longest", better(3, 2, 3, 2, 1, 1), 4);
        due("25: always more", better(0, 1, 2, 3, 4, 5, 6, 7, 8, 9, 10, 11), 1);
        due("25: twelve", better(11, 10, 9, 8, 7, 6, 5, 4, 3, 2, 1, 0), 12);
        due("25: more by one in the middle", better(9, 8, 7, 6, 5, 4, 5, 4, 3, 2, 1, 0), 6);
        due("25: of another head none", curves(new int[] {3, 2, 1}).curve(1, 0, 0), 0);
    }

    /** 25: from the least to the greatest of all other HEADS that have that place (one at least). */
    private static void asOthersFromLeastToGreatest() {
        due("25: none else", curves(new int[] {5, 5}).curve(0, 0, 1), 0);
        due("25: none of its own", curves(new int[] {}, new int[] {5, 5}).curve(0, 0, 1), 0);
        due("25: one else, the same", curves(new int[] {5}, new int[] {5}).curve(0, 0, 1), 1);
        due("25: one else, more", curves(new int[] {5}, new int[] {6}).curve(0, 0, 1), 0);
        due("25: one else, fewer", curves(new int[] {5}, new int[] {4}).curve(0, 0, 1), 0);
        due("25: none else has the place", curves(new int[] {5, 5, 5}, new int[] {5}).curve(0, 0, 1), 1);
        due("25: others have more places", curves(new int[] {5}, new int[] {5, 5}).curve(0, 0, 1), 1);
        due("25: others have 0 behind its places", curves(new int[] {5}, new int[] {5, 0}).curve(0, 0, 1), 1);
        int[] least = {2, 2, 2, 2, 2};
        int[] greatest = {4, 4, 4, 4, 4};
        due("25: the bounds, too", curves(new int[] {1, 2, 3, 4, 5}, least, greatest).curve(0, 0, 1), 3);
        due("25: the bounds are of any two", curves(new int[] {1, 2, 3, 4, 5}, greatest, new int[] {3}, least).curve(0, 0, 1), 3);
        due("25: 0 and 1000, none else", curves(new int[] {0, 1000}).curve(0, 0, 1), 0);
        due("25: others at 1000 alone", curves(new int[] {1000, 999}, new int[] {1000, 1000}).curve(0, 0, 1), 1);
        due("25: others at 0 alone", curves(new int[] {0, 1}, new int[] {0, 0}).curve(0, 0, 1), 1);
        due("25: 0 and 1000", curves(new int[] {0, 1000}, new int[] {0, 0}, new int[] {1000, 1000}).curve(0, 0, 1), 2);
        StarDays x = curves(new int[] {5}, new int[] {}, new int[] {}, new int[] {}, new int[] {}, new int[] {5});
        due("25: the last head", x.curve(0, 0, 1), 1);
        due("25: of the last head", x.curve(5, 0, 1), 1);
        due("25: of one between", x.curve(3, 0, 1), 0);
        StarDays tasks = heads(2, 2);
        tasks.mistakes(0, 0, 5);
        tasks.mistakes(1, 1, 5);
        due("25: of another task", tasks.curve(0, 0, 1), 0);
    }

    /** 26: a DAY (0 to NOW); false: no such ones. */
    private static void noSuchAsking() {
        for (int no : noHeads()) {
            Worlds.refused(CHECKS, "26: asks(" + no + ", 0)", Worlds.small(), x -> x.asks(no, 0) ? 1 : 0, 0);
        }
        for (int no : new int[] {MIN, -1, 10, 299, 300, MAX}) {
            Worlds.refused(CHECKS, "26: asks(0, " + no + ")", Worlds.small(), x -> x.asks(0, no) ? 1 : 0, 0);
        }
        Worlds.refused(CHECKS, "26: asks(0, 5), it was", Worlds.small(), x -> x.asks(0, 5) ? 1 : 0, 0);
    }

    private static void asksFromFirstToNow() {
        StarDays x = heads(6, 1);
        due("26: day 1 of now 0", x.asks(0, 1), false);
        x.now(299);
        for (int h = 0; h < 6; h++) {
            for (int day : new int[] {0, 1, 150, 298, 299}) {
                due("26: asks(" + h + ", " + day + ")", x.asks(h, day), true);
                due("26: asks(" + h + ", " + day + "), it was", x.asks(h, day), false);
            }
            due("26: asks(" + h + ", 300)", x.asks(h, 300), false);
            due("26: asks(" + h + ", -1)", x.asks(h, -1), false);
        }
    }

    /** 27: NONE: no such one. */
    private static void noSuchUnasked() {
        for (int no : noHeads()) {
            refused("27: unasked(" + no + ")", x -> x.unasked(no));
        }
    }

    /** 27: DAYS on which it did TASKS (ANSWERS, told ones too) and was not asked. */
    private static void unaskedDays() {
        StarDays x = heads(2, 1);
        due("27: no answers", x.unasked(0), 0);
        x.asks(0, 0);
        due("27: asked, no answers", x.unasked(0), 0);
        x.does(0, 0);
        due("27: asked ahead of it", x.unasked(0), 0);
        x.now(1);
        x.does(0, 0);
        x.does(0, 0);
        x.told(1, 0, 1, 0);
        x.told(0, 0, 1, 0);
        due("27: one day", x.unasked(0), 1);
        x.now(299);
        x.told(0, 0, 298, 1);
        x.does(0, 0);
        due("27: three days", x.unasked(0), 3);
        x.asks(1, 298);
        due("27: another is asked", x.unasked(0), 3);
        x.asks(0, 2);
        due("27: asked on a day between", x.unasked(0), 3);
        x.asks(0, 298);
        x.asks(0, 299);
        due("27: one is left", x.unasked(0), 1);
        due("27: of another", x.unasked(1), 1);
        StarDays y = heads(1, 1);
        for (int day = 0; day < 200; day++) {
            y.now(day);
            y.told(0, 0, day, 1);
        }
        due("27: 200 days", y.unasked(0), 200);
    }

    private static void againOfNone() {
        due("28: of a new object", new StarDays().again(), 0);
        StarDays x = heads(1, 1);
        Checks.tellAnswers(x, 0, 0, 5, 5);
        due("28: told ones are not played", x.again(), 0);
        due("28: X stays", x.count(7), 1);
        x.does(0, 0);
        due("28: one is played", x.again(), 1);
    }

    /** 28: with THE SEED told last, SHARES, LAWS, TASKS as now; it changes nothing. */
    private static void againAsNow() {
        StarDays x = heads(1, 2);
        x.task(1, 0, 100);
        x.does(0, 2);
        x.does(0, 2);
        x.does(0, 2);
        due("28: all are right", x.again(), 3);
        x.share(0, 0, 0);
        due("28: none without a share", x.again(), 0);
        x.share(0, 0, 100);
        Checks.tellLaw(x, 0, "g100(n=2)");
        due("28: the third alone", x.again(), 1);
        Checks.tellLaw(x, 0, "g100(a=0)");
        due("28: the first alone", x.again(), 1);
        Checks.tellLaw(x, 0, "g100(d=300)");
        due("28: the first alone", x.again(), 1);
        Checks.tellLaw(x, 0, "g100(y=0)");
        x.now(299);
        due("28: each on its day", x.again(), 3);
        Worlds.refused(CHECKS, "28: it changes nothing", Worlds.small(), StarDays::again, 2);
        // All heads of a full object have all that tasks need.
        Worlds.refused(CHECKS, "28: of a full object", Worlds.full(), StarDays::again, 100);
    }

    /** 29: -2: it has not so many (the tape stays). */
    private static void checkHasNotSoMany() {
        for (int no : new int[] {MIN, -1, 2, 12, 13, 1 << 27, 1 << 28, 1 << 29, 1 << 30, MAX}) {
            Worlds.refused(CHECKS, "29: check(" + no + ") of 20 bytes", Worlds.small(), x -> x.check(no), -2);
        }
        for (int no : new int[] {MIN, -1, 13, 14, 200, MAX}) {
            Worlds.refused(CHECKS, "29: check(" + no + ") of 200 bytes", Worlds.full(), x -> x.check(no), -2);
        }
        Worlds.refused(CHECKS, "29: check(1) of none", Worlds.smallOfEmptyTape(), x -> x.check(1), -2);
        for (int twenties = 1; twenties <= 10; twenties++) {
            StarDays x = heads(1, 1);
            for (int i = 0; i < twenties; i++) {
                x.feed(0, 0, 0, 0, 0);
            }
            int most = 20 * twenties / 16;
            due("29: one more than it has", x.check(most + 1), -2);
            due("29: the tape stays", x.count(6), 20 * twenties);
            due("29: as many as it has, of no answers", x.check(most), 0);
            due("29: empty then", x.count(6), 0);
        }
    }

    private static int check(StarDays x, int n, int... numbers) {
        Checks.feedNumbers(x, numbers);
        int answer = x.check(n);
        due("29: empty then", x.count(6), 0);
        return answer;
    }

    /** 29: NONE: right; else the place of the first number that is not so. */
    private static void checkFirstThatIsNotSo() {
        StarDays x = heads(3, 2);
        x.now(299);
        x.told(2, 1, 298, 0);
        x.does(0, 0);
        int[] right = {2, 1, 298, 0, 0, 0, 299, 1};
        due("29: right", check(x, 2, right), -1);
        for (int place = 0; place < 8; place++) {
            for (int other : new int[] {MIN, -1, right[place] + 1, right[place] - 1, right[place] + 65536, MAX}) {
                int[] numbers = right.clone();
                numbers[place] = other;
                due("29: " + other + " at " + place, check(x, 2, numbers), place);
                numbers[7] = 9;
                due("29: the first of two", check(x, 2, numbers), place);
            }
        }
        due("29: one too many", check(x, 3, 2, 1, 298, 0, 0, 0, 299, 1, 0, 0, 299, 1), 8);
        due("29: one too many, the first is not so", check(x, 3, 2, 0, 298, 0, 0, 0, 299, 1, 0, 0, 299, 1), 1);
    }

    /** 29: 4 n: some are lacking. */
    private static void checkSomeAreLacking() {
        StarDays x = heads(1, 1);
        due("29: none of none", check(x, 0), -1);
        x.told(0, 0, 0, 1);
        due("29: none of one", check(x, 0), 0);
        due("29: one of one", check(x, 1, 0, 0, 0, 1), -1);
        x.told(0, 0, 0, 1);
        due("29: none of two", check(x, 0), 0);
        due("29: one of two", check(x, 1, 0, 0, 0, 1), 4);
        due("29: one of two, not so", check(x, 1, 0, 0, 0, 0), 3);
        x.told(0, 0, 0, 1);
        due("29: two of three", check(x, 2, 0, 0, 0, 1, 0, 0, 0, 1), 8);
        Checks.feedNumbers(x, 0, 0, 0, 1);
        due("29: check(0) empties the tape", x.check(0), 0);
        due("29: empty then", x.count(6), 0);
    }

    private static void checkOfTheMost() {
        StarDays x = heads(1, 1);
        int[] numbers = new int[50];
        for (int i = 0; i < 12; i++) {
            x.told(0, 0, 0, 1);
            numbers[4 * i + 3] = 1;
        }
        due("29: twelve of twelve", check(x, 12, numbers), -1);
        due("29: eleven of twelve", check(x, 11, numbers), 44);
        numbers[47] = 0;
        due("29: the last of them", check(x, 12, numbers), 47);
        numbers[47] = 1;
        x.told(0, 0, 0, 1);
        due("29: twelve of thirteen", check(x, 12, numbers), 48);
    }

    /** 30: NONE for others. */
    private static void countForOthers() {
        for (int no : new int[] {MIN, -2, -1, 8, 9, 12, 15, 16, 17, 100, MAX}) {
            refused("30: count(" + no + ")", x -> x.count(no));
        }
        int[] small = {9, 2, 2, 3, 4, 2, 20};
        int[] full = {299, 6, 6, 8, 200, 40, 200};
        for (int what = 0; what <= 6; what++) {
            due("30: count(" + what + ") of small", Worlds.small().count(what), small[what]);
            due("30: count(" + what + ") of full", Worlds.full().count(what), full[what]);
        }
        due("30: a law of one clause", Worlds.small().count(10), 1);
        due("30: no law", Worlds.small().count(11), 0);
        for (int k = 0; k < 6; k++) {
            due("30: no law", Worlds.full().count(10 + k), 0);
        }
        StarDays x = Checks.with(6, 1);
        due("30: a law of the last store", Checks.tellLaw(x, 5, "g1(1=1);".repeat(11) + "g1(1=1)"), 12);
        due("30: count(15)", x.count(15), 12);
        due("30: count(14)", x.count(14), 0);
        due("30: count(16)", x.count(16), -1);
    }
}
