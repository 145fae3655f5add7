/** Each sentence of promises 1 to 8, and of the terms that they speak of, that names a boundary case. */
public final class BoundsOfStateTest {
    private static final Checks CHECKS = new Checks("BoundsOfStateTest");
    private static final int MIN = Integer.MIN_VALUE;
    private static final int MAX = Integer.MAX_VALUE;

    public static void main(String[] args) {
        nothingAtFirst();
        firstSeedIsOne();
        refusedOnNewObject();
        answeredOnNewObject();
        sixStores();
        sixHeads();
        shareBounds();
        shareIsFullAtFirst();
        shareOfNoSuchOnes();
        usesOneAboveNothing();
        usesDigits();
        usesStoresThatAreThere();
        taskModeAndHard();
        eightTasks();
        refusedTaskLeavesNoTrace();
        dayBounds();
        dayIsPast();
        seedBounds();
        seedIsX();
        tapeHolds200();
        tapeHighestByteFirst();
        CHECKS.end();
    }

    private static void due(String call, long got, long want) {
        CHECKS.due(call, got, want);
    }

    private static void due(String call, boolean got, boolean want) {
        CHECKS.due(call, got, want);
    }

    private static void refused(String call, Worlds.Call made, long want) {
        Worlds.refused(CHECKS, call, made, want);
    }

    /** Tells a boolean as a number. */
    private static long one(boolean yes) {
        return yes ? 1 : 0;
    }

    /** 1: DAY 0; no HEADS, STORES, TASKS. */
    private static void nothingAtFirst() {
        StarDays x = new StarDays();
        for (int what = 0; what <= 6; what++) {
            due("1: count(" + what + ")", x.count(what), 0);
        }
        for (int what = 10; what <= 15; what++) {
            due("1: count(" + what + ") of no store", x.count(what), -1);
        }
        due("1: the store next is 0", x.store(), 0);
        due("1: the head next is 0", x.head(), 0);
        due("1: the task next is 0", x.task(1, 0, 0), 0);
        due("1: day 0 is not past", x.now(0), true);
    }

    /** 1: THE SEED 1 (X is THE SEED at first). */
    private static void firstSeedIsOne() {
        StarDays x = new StarDays();
        due("1: X", x.count(7), 1);
        x.store();
        x.head();
        x.task(1, 0, 78);
        x.share(0, 0, 0);
        due("1: behind 1 comes 39022, and 22 is not below 22", x.does(0, 0), 0);
        due("1: X behind 1", x.count(7), 39022);
        x.share(0, 0, 1);
        due("1: again from 1 on, 22 is below 23", x.again(), 1);
    }

    private static void refusedOnNewObject() {
        String[] names = {"share", "task", "law", "gives", "does", "told", "answer", "can", "worse", "parted", "lacks",
            "purest", "lasts", "mistakes", "curve", "asks", "unasked"};
        Worlds.Call[] calls = {x -> one(x.share(0, 0, 1)), x -> x.task(1, 0, 0), x -> x.law(0, 1), x -> x.gives(0, 0, 0),
            x -> x.does(0, 0), x -> x.told(0, 0, 0, 1), x -> x.answer(0, 0), x -> x.can(0, 0, 0),
            x -> x.worse(0, 1, 0, 0), x -> x.parted(0, 1, 0, 1, 50), x -> x.lacks(0, 0), x -> x.purest(0),
            x -> x.lasts(0, 0, 0, 1), x -> x.mistakes(0, 0, 0), x -> x.curve(0, 0, 0), x -> one(x.asks(0, 0)),
            x -> x.unasked(0)};
        for (int i = 0; i < calls.length; i++) {
            boolean isBoolean = names[i].equals("share") || names[i].equals("asks");
            Worlds.refused(CHECKS, "1: " + names[i] + " of a new object", new StarDays(), calls[i], isBoolean ? 0 : -1);
            StarDays fed = new StarDays();
            fed.feed(0, 0, 0, 0, 0);
            Worlds.refused(CHECKS, "1: " + names[i] + " of a new object", fed, calls[i], isBoolean ? 0 : -1);
        }
    }

    private static void answeredOnNewObject() {
        StarDays x = new StarDays();
        due("1: no stores are wanted", x.fewest(-1), 0);
        due("1: no place", x.fewest(0), -1);
        due("1: back(0)", x.back(0), 0);
        due("1: back(1)", x.back(1), 100);
        due("1: back(2)", x.back(2), 0);
        due("1: again()", x.again(), 0);
        due("1: check(0)", x.check(0), -1);
        due("1: check(1)", x.check(1), -2);
        due("1: next of an empty tape", x.next(2, 0), -1);
        Checks.feedBytes(x, 0, 0);
        due("1: next by no stores", x.next(2, 0), -2);
        Checks.feedBytes(x, 0, 1);
        due("1: next by a store that is not there", x.next(2, 0), -1);
        due("1: old(0, 0, 0)", x.old(0, 0, 0), 1);
    }

    /** 2: STORES 0 to 5; NONE: six are there. */
    private static void sixStores() {
        StarDays x = new StarDays();
        for (int k = 0; k <= 5; k++) {
            due("2: before", x.count(1), k);
            due("2: a store", x.store(), k);
        }
        for (int i = 0; i < 3; i++) {
            Worlds.refused(CHECKS, "2: a seventh", x, StarDays::store, -1);
        }
        Worlds.refused(CHECKS, "2: a seventh of a full object", Worlds.full(), StarDays::store, -1);
        due("2: no heads by it", x.count(2), 0);
    }

    /** 3: HEADS 0 to 5; NONE: six are there. */
    private static void sixHeads() {
        StarDays x = new StarDays();
        for (int h = 0; h <= 5; h++) {
            due("3: before", x.count(2), h);
            due("3: a head", x.head(), h);
        }
        for (int i = 0; i < 3; i++) {
            Worlds.refused(CHECKS, "3: a seventh", x, StarDays::head, -1);
        }
        Worlds.refused(CHECKS, "3: a seventh of a full object", Worlds.full(), StarDays::head, -1);
        due("3: no stores by it", x.count(1), 0);
    }

    /** 4: a SHARE (0 to 100). */
    private static void shareBounds() {
        StarDays x = Checks.with(6, 6);
        x.task(111111, 0, 0);
        for (int h = 0; h < 6; h++) {
            for (int k = 0; k < 6; k++) {
                int share = (h * 6 + k) % 2 == 0 ? 0 : 100 - h;
                due("4: share(" + h + ", " + k + ", " + share + ")", x.share(h, k, share), true);
            }
        }
        for (int h = 0; h < 6; h++) {
            for (int k = 0; k < 6; k++) {
                due("4: by head " + h + " of store " + k, x.gives(h, 0, k), (h * 6 + k) % 2 == 0 ? 0 : 100 - h);
            }
        }
        for (int share : new int[] {MIN, -1, 101, MAX}) {
            refused("4: share(0, 0, " + share + ")", y -> one(y.share(0, 0, share)), 0);
        }
    }

    /** 4: 100 at first, whether the head or the store comes first. */
    private static void shareIsFullAtFirst() {
        StarDays x = new StarDays();
        x.store();
        x.head();
        x.store();
        x.head();
        x.task(11, 0, 0);
        for (int h = 0; h < 2; h++) {
            for (int k = 0; k < 2; k++) {
                due("4: at first", x.gives(h, 0, k), 100);
            }
        }
    }

    /** 4: false: no such ones. */
    private static void shareOfNoSuchOnes() {
        for (int no : new int[] {MIN, -1, 2, 5, 6, MAX}) {
            refused("4: share of head " + no, x -> one(x.share(no, 0, 1)), 0);
            refused("4: share of store " + no, x -> one(x.share(0, no, 1)), 0);
        }
        Worlds.refused(CHECKS, "4: share of head 6", Worlds.full(), x -> one(x.share(6, 0, 1)), 0);
        Worlds.refused(CHECKS, "4: share of store 6", Worlds.full(), x -> one(x.share(0, 6, 1)), 0);
    }

    /** 5: one above 0 at least. */
    private static void usesOneAboveNothing() {
        refused("5: task(0, 0, 0)", x -> x.task(0, 0, 0), -1);
        for (int uses : new int[] {-1, -10, -11, MIN}) {
            refused("5: task(" + uses + ", 0, 0)", x -> x.task(uses, 0, 0), -1);
        }
        due("5: one is enough", Worlds.small().task(1, 0, 0), 3);
        due("5: of any store", Worlds.small().task(10, 0, 0), 3);
    }

    /** 5: uses as digits of ten (STORE 0 in the lowest place), 0 to 9. */
    private static void usesDigits() {
        StarDays x = Checks.with(6, 1);
        due("5: task(987650, 0, 0)", x.task(987650, 0, 0), 0);
        due("5: task(999999, 0, 0)", x.task(999999, 0, 0), 1);
        due("5: task(100000, 0, 0)", x.task(100000, 0, 0), 2);
        for (int k = 0; k < 6; k++) {
            for (int t = 0; t < 3; t++) {
                int[][] uses = {{0, 5, 6, 7, 8, 9}, {9, 9, 9, 9, 9, 9}, {0, 0, 0, 0, 0, 1}};
                Checks.tellLaw(x, k, "gu(1=1)");
                due("5: uses of task " + t + " of store " + k, x.gives(0, t, k), uses[t][k] == 0 ? -1 : uses[t][k]);
            }
        }
    }

    /** 5: NONE: no such ones (of STORES that are not there, too). */
    private static void usesStoresThatAreThere() {
        int ten = 1;
        for (int stores = 0; stores <= 6; stores++) {
            StarDays x = Checks.with(stores, 1);
            due("5: one store too many of " + stores, x.task(ten, 0, 0), -1);
            due("5: along with those that are there", x.task(ten + (stores == 0 ? 0 : 1), 0, 0), -1);
            due("5: none is made", x.count(3), 0);
            if (stores > 0) {
                due("5: the last of " + stores, x.task(ten / 10, 0, 0), 0);
                due("5: all of " + stores, x.task(ten - 1, 0, 0), 1);
            }
            ten *= 10;
        }
        Worlds.refused(CHECKS, "5: ten digits", Checks.with(6, 1), x -> x.task(MAX, 0, 0), -1);
    }

    /** 5: a MODE (0, 1), HARD (0 to 100). */
    private static void taskModeAndHard() {
        for (int mode : new int[] {MIN, -1, 2, MAX}) {
            refused("5: mode " + mode, x -> x.task(1, mode, 0), -1);
        }
        for (int hard : new int[] {MIN, -1, 101, MAX}) {
            refused("5: hard " + hard, x -> x.task(1, 0, hard), -1);
        }
        StarDays x = Worlds.smallOfEmptyTape();
        due("5: mode 0, hard 0", x.task(1, 0, 0), 3);
        due("5: mode 1, hard 100", x.task(1, 1, 100), 4);
        Checks.tellLaw(x, 0, "gh(1=1)");
        due("5: hard 0", x.gives(0, 3, 0), 0);
        Checks.tellLaw(x, 0, "gh(1=1)");
        due("5: hard 100", x.gives(0, 4, 0), 100);
    }

    /** 5: TASKS 0 to 7; NONE: 8 are there. */
    private static void eightTasks() {
        StarDays x = Checks.with(1, 1);
        for (int t = 0; t <= 7; t++) {
            due("5: a task", x.task(1, 0, 0), t);
            due("5: how many", x.count(3), t + 1);
        }
        Worlds.refused(CHECKS, "5: a ninth", x, y -> y.task(1, 0, 0), -1);
        Worlds.refused(CHECKS, "5: a ninth of a full object", Worlds.full(), y -> y.task(1, 0, 0), -1);
    }

    private static void refusedTaskLeavesNoTrace() {
        StarDays x = Checks.with(1, 1);
        x.task(19, 0, 0);
        x.store();
        due("5: one refused of two stores", x.task(199, 0, 0), -1);
        due("5: task(1, 0, 0)", x.task(1, 0, 0), 0);
        due("5: store 1 is not used", x.gives(0, 0, 1), -1);
        due("5: purest", x.purest(1), -1);
        due("5: store 1 made later is not used", x.purest(0), 0);
        x.store();
        due("5: a store made behind the task", x.gives(0, 0, 2), -1);
        due("5: the next one uses it", x.task(100, 0, 0), 1);
        StarDays y = Checks.with(2, 1);
        due("5: one that uses store 1, and one that is not there", y.task(191, 0, 0), -1);
        due("5: task(1, 0, 0)", y.task(1, 0, 0), 0);
        due("5: task(21, 0, 0)", y.task(21, 0, 0), 1);
        due("5: nothing of the refused one is used", y.purest(0), 0);
        y.told(0, 0, 0, 1);
        y.told(0, 1, 0, 0);
        due("5: task 0 needs store 0 alone", y.lacks(0, 0), 2);
        due("5: none is otherwise", y.lacks(0, 1), 0);
    }

    /** 6: DAYS 0 to 299. */
    private static void dayBounds() {
        for (int day : new int[] {MIN, -1, 300, MAX}) {
            refused("6: now(" + day + ")", x -> one(x.now(day)), 0);
        }
        StarDays x = new StarDays();
        due("6: now(299)", x.now(299), true);
        due("6: count(0)", x.count(0), 299);
        due("6: now(299) once more", x.now(299), true);
        Worlds.refused(CHECKS, "6: now(300)", x, y -> one(y.now(300)), 0);
        Worlds.refused(CHECKS, "6: now(0)", x, y -> one(y.now(0)), 0);
        Worlds.refused(CHECKS, "6: now(-1)", new StarDays(), y -> one(y.now(-1)), 0);
    }

    /** 6: false: it is past. */
    private static void dayIsPast() {
        refused("6: now(8) of 9", x -> one(x.now(8)), 0);
        refused("6: now(0) of 9", x -> one(x.now(0)), 0);
        StarDays x = Worlds.small();
        due("6: now(9) of 9", x.now(9), true);
        due("6: now(10) of 9", x.now(10), true);
        due("6: count(0)", x.count(0), 10);
    }

    /** 7: THE SEED (0 to 65535); false: no such number. */
    private static void seedBounds() {
        for (int seed : new int[] {MIN, -1, 65536, MAX}) {
            refused("7: seed(" + seed + ")", x -> one(x.seed(seed)), 0);
        }
        StarDays x = Checks.with(1, 1);
        x.task(1, 0, 0);
        for (int seed : new int[] {0, 1, 65535}) {
            due("7: seed(" + seed + ")", x.seed(seed), true);
            due("7: count(7)", x.count(7), seed);
            x.does(0, 0);
            due("7: X modulo 65536", x.count(7), (25173L * seed + 13849) % 65536);
        }
    }

    /** 7: X, too: the draws begin anew, and PLAYED AGAIN begins with it. */
    private static void seedIsX() {
        StarDays x = Checks.with(1, 1);
        x.task(1, 0, 100);
        x.share(0, 0, 50);
        int first = x.does(0, 0);
        due("7: seed(1)", x.seed(1), true);
        due("7: the same draw once more", x.does(0, 0), first);
        x.seed(0);
        due("7: count(7)", x.count(7), 0);
        int second = 13849 * 25173 + 13849 & 65535;
        due("7: again with 0", x.again(), (13849 % 100 < 50 ? 1 : 0) + (second % 100 < 50 ? 1 : 0));
        due("7: X stays", x.count(7), 0);
    }

    /** 8: how many it has; NONE if that would be more than 200. */
    private static void tapeHolds200() {
        StarDays x = Checks.with(1, 1);
        for (int bytes = 20; bytes <= 200; bytes += 20) {
            due("8: feed", x.feed(0x67372831, 0x3d312900, 0, 0, 0), bytes);
        }
        Worlds.refused(CHECKS, "8: feed of 220", x, y -> y.feed(1, 2, 3, 4, 5), -1);
        due("8: behind an empty tape", x.feed(0, 0, 0, 0, 0), 20);
        Worlds.refused(CHECKS, "8: feed of a full object", Worlds.full(), y -> y.feed(0, 0, 0, 0, 0), -1);
    }

    /** 8: the highest of each int first. */
    private static void tapeHighestByteFirst() {
        StarDays x = Checks.with(1, 1);
        x.task(1, 0, 0);
        x.feed(0x67312b32, 0x2b332b34, 0x2b352b36, 0x2b372b38, 0x2b392831);
        x.feed(0x3d312900, MIN, MAX, -1, 255);
        due("8: g1+2+3+4+5+6+7+8+9(1=1)", x.law(0, 23), 1);
        due("8: by it", x.gives(0, 0, 0), 45);
        x.feed(0x80ff7f00, 0, 0, 0, 0);
        due("8: a byte of 128 is no sign", x.law(0, 1), -1000);
    }
}
