/** Each promise of the document by hand: ordinary inputs, the edges that it names, and wrong inputs. */
public final class PromisesTest {
    private static final Checks CHECKS = new Checks("PromisesTest");
    private static final int MIN = Integer.MIN_VALUE;
    private static final int MAX = Integer.MAX_VALUE;

    private static void due(String call, long got, long want) {
        CHECKS.due(call, got, want);
    }

    private static void due(String call, boolean got, boolean want) {
        CHECKS.due(call, got, want);
    }

    public static void main(String[] args) {
        newObject();
        store();
        head();
        share();
        task();
        now();
        seed();
        feed();
        law();
        lawFaults();
        gives();
        givesReckons();
        does();
        told();
        answer();
        can();
        worse();
        parted();
        fewest();
        fewestUntold();
        lacks();
        next();
        purest();
        old();
        back();
        lasts();
        mistakes();
        curve();
        asks();
        unasked();
        again();
        check();
        count();
        CHECKS.end();
    }

    private static void newObject() {
        StarDays x = new StarDays();
        for (int what = 0; what <= 6; what++) {
            due("1: count(" + what + ")", x.count(what), 0);
        }
        due("1: count(7), X is the seed", x.count(7), 1);
        due("1: NONE", StarDays.NONE, -1);
    }

    private static void store() {
        StarDays x = new StarDays();
        for (int k = 0; k < 6; k++) {
            due("2: store()", x.store(), k);
        }
        due("2: a seventh store()", x.store(), -1);
        due("2: count(1)", x.count(1), 6);
    }

    private static void head() {
        StarDays x = new StarDays();
        for (int h = 0; h < 6; h++) {
            due("3: head()", x.head(), h);
        }
        due("3: a seventh head()", x.head(), -1);
        due("3: count(2)", x.count(2), 6);
    }

    private static void share() {
        StarDays x = Checks.with(2, 2);
        x.task(11, 0, 0);
        due("4: share 100 at first", x.gives(1, 0, 1), 100);
        due("4: share(1, 1, 0)", x.share(1, 1, 0), true);
        due("4: gives by it", x.gives(1, 0, 1), 0);
        due("4: another store's", x.gives(1, 0, 0), 100);
        due("4: another head's", x.gives(0, 0, 1), 100);
        due("4: share(1, 1, 100)", x.share(1, 1, 100), true);
        due("4: gives by it", x.gives(1, 0, 1), 100);
        due("4: share(1, 1, 37)", x.share(1, 1, 37), true);
        due("4: share(1, 1, -1)", x.share(1, 1, -1), false);
        due("4: share(1, 1, 101)", x.share(1, 1, 101), false);
        due("4: share(2, 1, 5)", x.share(2, 1, 5), false);
        due("4: share(-1, 1, 5)", x.share(-1, 1, 5), false);
        due("4: share(1, 2, 5)", x.share(1, 2, 5), false);
        due("4: share(1, -1, 5)", x.share(1, -1, 5), false);
        due("4: refused ones change nothing", x.gives(1, 0, 1), 37);
    }

    private static void task() {
        StarDays x = Checks.with(2, 1);
        due("5: task(0, 0, 0) uses none", x.task(0, 0, 0), -1);
        due("5: task(100, 0, 0) uses a store that is not there", x.task(100, 0, 0), -1);
        due("5: task(101, 0, 0) uses one that is not there, too", x.task(101, 0, 0), -1);
        due("5: task(-11, 0, 0)", x.task(-11, 0, 0), -1);
        due("5: task(MIN, 0, 0)", x.task(MIN, 0, 0), -1);
        due("5: task(MAX, 0, 0)", x.task(MAX, 0, 0), -1);
        due("5: task(1, -1, 0)", x.task(1, -1, 0), -1);
        due("5: task(1, 2, 0)", x.task(1, 2, 0), -1);
        due("5: task(1, 0, -1)", x.task(1, 0, -1), -1);
        due("5: task(1, 0, 101)", x.task(1, 0, 101), -1);
        due("5: no task yet", x.count(3), 0);
        due("5: task(20, 0, 0)", x.task(20, 0, 0), 0);
        due("5: it does not use store 0", x.gives(0, 0, 0), -1);
        due("5: it uses store 1", x.gives(0, 0, 1), 100);
        due("5: task(99, 1, 100)", x.task(99, 1, 100), 1);
        for (int t = 2; t < 8; t++) {
            due("5: task(1, 0, 0)", x.task(1, 0, 0), t);
        }
        due("5: a ninth", x.task(1, 0, 0), -1);
        StarDays y = Checks.with(6, 1);
        due("5: task(1000000, 0, 0) of six stores", y.task(1000000, 0, 0), -1);
        due("5: task(900000, 0, 0) of six stores", y.task(900000, 0, 0), 0);
        due("5: it uses store 5", y.gives(0, 0, 5), 100);
    }

    private static void now() {
        StarDays x = new StarDays();
        due("6: now(-1)", x.now(-1), false);
        due("6: now(300)", x.now(300), false);
        due("6: now(MAX)", x.now(MAX), false);
        due("6: now(0)", x.now(0), true);
        due("6: now(7)", x.now(7), true);
        due("6: now(7) is not past", x.now(7), true);
        due("6: now(6)", x.now(6), false);
        due("6: count(0)", x.count(0), 7);
        due("6: now(299)", x.now(299), true);
        due("6: count(0)", x.count(0), 299);
    }

    private static void seed() {
        StarDays x = Checks.with(1, 1);
        x.task(1, 0, 0);
        due("7: seed(-1)", x.seed(-1), false);
        due("7: seed(65536)", x.seed(65536), false);
        due("7: nothing changed", x.count(7), 1);
        due("7: seed(0)", x.seed(0), true);
        due("7: count(7)", x.count(7), 0);
        x.does(0, 0);
        due("7: X behind 0", x.count(7), 13849);
        due("7: seed(65535)", x.seed(65535), true);
        due("7: count(7)", x.count(7), 65535);
        x.does(0, 0);
        due("7: X behind 65535", x.count(7), (25173L * 65535 + 13849) % 65536);
    }

    private static void feed() {
        StarDays x = Checks.with(1, 1);
        for (int i = 1; i <= 10; i++) {
            due("8: feed", x.feed(0x67350000, 0, 0, 0, 0), 20 * i);
        }
        due("8: an eleventh", x.feed(1, 2, 3, 4, 5), -1);
        due("8: count(6)", x.count(6), 200);
        due("8: the highest byte comes first", x.law(0, 2), -1002);
        due("8: empty", x.count(6), 0);
        Checks.feedNumbers(x, -1, 256, MIN, MAX, 7);
        due("8: numbers as they were", x.check(1), 0);
        Checks.feedText(x, "g1+2+3+4+5+6+7+8+9(1=1)");
        due("8: the second feed stands behind the first", x.law(0, 23), 1);
        x.task(1, 0, 0);
        due("8: by it", x.gives(0, 0, 0), 45);
    }

    private static void law() {
        StarDays x = Checks.with(2, 1);
        x.task(11, 0, 0);
        due("9: no text gives 100", x.gives(0, 0, 0), 100);
        due("9: no clauses", x.count(10), 0);
        Checks.feedText(x, "g50(n=0)");
        due("9: law(2, 8)", x.law(2, 8), -1);
        due("9: law(-1, 8)", x.law(-1, 8), -1);
        due("9: law(0, 0)", x.law(0, 0), -1);
        due("9: law(0, -1)", x.law(0, -1), -1);
        due("9: law(0, 161)", x.law(0, 161), -1);
        due("9: law(0, MIN)", x.law(0, MIN), -1);
        due("9: law(0, 21) of 20", x.law(0, 21), -1);
        due("9: the tape stays", x.count(6), 20);
        due("9: law(0, 1)", x.law(0, 1), -1001);
        Checks.feedText(x, "g50(n=0)");
        due("9: law(0, 8)", x.law(0, 8), 1);
        due("9: the tape is empty", x.count(6), 0);
        due("9: gives by it", x.gives(0, 0, 0), 50);
        due("9: another store", x.gives(0, 0, 1), 100);
        due("9: in place of the one before", Checks.tellLaw(x, 0, "g20(n=1);g30(n=0)"), 2);
        due("9: gives by it", x.gives(0, 0, 0), 30);
        due("9: a fault", Checks.tellLaw(x, 0, "g20(n=0);h"), -1009);
        due("9: empty behind a fault, too", x.count(6), 0);
        due("9: the text before stays", x.gives(0, 0, 0), 30);
        due("9: its clauses, too", x.count(10), 2);
        String longest = "g00" + "+1".repeat(75) + "(11=11)";
        due("9: 160 bytes", Checks.tellLaw(x, 1, longest), 1);
        due("9: all of them count", x.gives(0, 0, 1), 75);
        Checks.feedText(x, "g" + longest.substring(1, 159) + "1)");
        due("9: law(1, 161), too long", x.law(1, 161), -1);
        due("9: the end of the longest", x.law(1, 160), -1160);
        String twelve = "g1(n=0);".repeat(11) + "g1(n=0)";
        due("9: twelve clauses", Checks.tellLaw(x, 1, twelve), 12);
        due("9: count(11)", x.count(11), 12);
    }

    private static void fault(String text, int number, int place) {
        StarDays x = Checks.with(1, 1);
        due("9: fault of " + text, Checks.tellLaw(x, 0, text), -1000 * number - place);
    }

    private static void lawFaults() {
        fault(" g1(n=0)", 1, 0);
        fault("g 1(n=0)", 1, 1);
        fault("g1(n=0) ", 1, 7);
        fault("g1(n=0)g1(n=0)", 1, 7);
        fault("g1(n=0);", 1, 8);
        fault("g1(n=0);;", 1, 8);
        fault("G1(n=0)", 1, 0);
        fault("g-1(n=0)", 1, 1);
        fault("g1", 1, 2);
        fault("g1+", 1, 3);
        fault("g1()", 1, 3);
        fault("g1(n)", 1, 4);
        fault("g1(n=)", 1, 5);
        fault("g1(n=0=0)", 1, 6);
        fault("g1(n=0&)", 1, 7);
        fault("g1(n=0|&n=0)", 1, 7);
        fault("g1(n=0", 1, 6);
        fault("g1(!)", 1, 4);
        fault("g1((n=0)", 1, 8);
        fault("g1((n)=0)", 1, 5);
        fault("g1((n=0)=0)", 1, 8);
        fault("g1([n=0])", 1, 5);
        fault("g(n=0)", 1, 1);
        fault("g[1(n=0)", 1, 3);
        fault("g1](n=0)", 1, 2);
        fault("g1(n=0))", 1, 7);
        fault("gn1(n=0)", 1, 2);
        fault("g1n(n=0)", 1, 2);
        fault("gx(n=0)", 1, 1);
        fault("g1(n=0)" + (char) 233, 1, 7);
        fault((char) 231 + "1(n=0)", 1, 0);
        fault("g1(n" + (char) 0 + "0)", 1, 4);
        fault("g12345x", 1, 6);
        fault("g123456(n=0)", 2, 6);
        fault("g1(n=123456)", 2, 10);
        fault("g1(000000=0)", 2, 8);
        fault("g[[[[[[[1", 5, 7);
        fault("g1(!!!!!!n=0)", 5, 8);
        fault("g1((((((!n=0))))))", 5, 8);
        fault("g1((((((([n]=0", 5, 8);
        fault("g1(((((([n]=0))))))", 5, 8);
        fault("g1((((((n(", 1, 9);
        fault("g1((((((n=0)!", 1, 12);
        fault("g1(n=0);".repeat(12) + "g", 4, 96);
        fault("g1(n=0);".repeat(12) + "h", 1, 96);
        fault("g1(n=0);".repeat(12), 1, 96);
        fault("g1(n=0);".repeat(11) + "g1(n=0)x", 1, 95);
        StarDays x = Checks.with(1, 1);
        due("9: six open", Checks.tellLaw(x, 0, "g[[[[[[1]]]]]](!(!([n]=0)))"), 1);
        due("9: a ! ends with its piece", Checks.tellLaw(x, 0, "g1(!n=0&!n=0&!n=0&!!!!!n=0|!!!!!n=0)"), 1);
        due("9: brackets behind one another", Checks.tellLaw(x, 0, "g[1]+[1]+[1]+[1]+[1]+[1]+[1](n=0)"), 1);
        due("9: five digits", Checks.tellLaw(x, 0, "g00005(99999=99999)"), 1);
    }

    private static void gives() {
        StarDays x = Checks.with(2, 2);
        x.task(30, 0, 77);
        x.task(2, 0, 5);
        due("10: gives(0, 0, 0), not used", x.gives(0, 0, 0), -1);
        due("10: gives(2, 0, 1)", x.gives(2, 0, 1), -1);
        due("10: gives(-1, 0, 1)", x.gives(-1, 0, 1), -1);
        due("10: gives(0, 2, 1)", x.gives(0, 2, 1), -1);
        due("10: gives(0, -1, 1)", x.gives(0, -1, 1), -1);
        due("10: gives(0, 0, 2)", x.gives(0, 0, 2), -1);
        due("10: gives(0, 0, -1)", x.gives(0, 0, -1), -1);
        x.share(0, 1, 33);
        due("10: share hundredths", x.gives(0, 0, 1), 33);
        Checks.tellLaw(x, 1, "g50(1=1)");
        due("10: rounded down", x.gives(0, 0, 1), 16);
        x.now(20);
        x.told(1, 0, 3, 1);
        x.told(1, 1, 4, 1);
        x.told(0, 1, 4, 1);
        x.told(1, 1, 5, 0);
        letter(x, "n", 1, 0, 1, 1);
        letter(x, "d", 1, 0, 1, 17);
        letter(x, "b", 1, 0, 1, 2);
        letter(x, "a", 1, 0, 1, 3);
        letter(x, "h", 1, 0, 1, 77);
        letter(x, "u", 1, 0, 1, 3);
        letter(x, "s", 1, 0, 1, 100);
        letter(x, "s", 0, 0, 1, 33);
        letter(x, "t", 1, 0, 1, 0);
        letter(x, "t", 1, 1, 0, 1);
        letter(x, "y", 1, 0, 1, 20);
        letter(x, "n", 1, 1, 0, 2);
        letter(x, "d", 1, 1, 0, 15);
        letter(x, "b", 1, 1, 0, 0);
        letter(x, "n", 0, 0, 1, 0);
        letter(x, "d", 0, 0, 1, 300);
        letter(x, "b", 0, 0, 1, 0);
        letter(x, "a", 0, 0, 1, 1);
        due("10: it is only asked", x.count(4), 4);
    }

    /** Whether the letter stands for just so much. */
    private static void letter(StarDays x, String letter, int h, int t, int k, int much) {
        Checks.tellLaw(x, k, "g100(" + letter + "=" + much + ")");
        int share = 100;
        if (h == 0 && k == 1) {
            share = 33;
        }
        due("10: letter " + letter + " of head " + h + ", task " + t, x.gives(h, t, k), share);
    }

    private static void reckons(String text, int much) {
        StarDays x = Checks.with(1, 1);
        x.task(3, 0, 40);
        due("9: clauses of " + text, Checks.tellLaw(x, 0, text) > 0, true);
        due("10: by " + text, x.gives(0, 0, 0), much);
    }

    private static void givesReckons() {
        reckons("g2+3*4(1=1)", 14);
        reckons("g20-3-4(1=1)", 13);
        reckons("g100/7/2(1=1)", 7);
        reckons("g100/7*2(1=1)", 28);
        reckons("g17%10*3(1=1)", 21);
        reckons("g[2+3]*4(1=1)", 20);
        reckons("g1-2(1=1)", 0);
        reckons("g101(1=1)", 100);
        reckons("g100(1=1)", 100);
        reckons("g5(1=2)", 0);
        reckons("g5(1=2);g6(2=2);g7(1=1)", 6);
        reckons("g0-[0-7]/2(1=1)", 3);
        reckons("g0-[0-7]%4(1=1)", 3);
        reckons("g99999*99999/20000-70400(1=1)", 93);
        reckons("g9(99999*30000<0)", 9);
        reckons("g9(32768*65536/[0-1]<0)", 9);
        reckons("g9(32768*65536%[0-1]=0)", 9);
        reckons("g9(1<2)", 9);
        reckons("g9(2<2)", 0);
        reckons("g9(3>2)", 9);
        reckons("g9(2>2)", 0);
        reckons("g9(!1=2)", 9);
        reckons("g9(!!1=2)", 0);
        reckons("g9(!1<2)", 0);
        reckons("g9(!2>1)", 0);
        reckons("g9(!1=1|1=2)", 0);
        reckons("g9(!(1=2|1=1))", 0);
        reckons("g9(1=1|1=2&1=2)", 9);
        reckons("g9((1=1|1=2)&1=2)", 0);
        reckons("g9(1=2|1=2|1=1)", 9);
        reckons("g9(1=1&1=1&1=2)", 0);
        reckons("g9(!1=2&1=1)", 9);
        reckons("g1/0(1=1);g9(1=1)", 0);
        reckons("g1%0(1=1)", 0);
        reckons("g5+[1/0]*0(1=1)", 0);
        reckons("g9(1/0=1)", 0);
        reckons("g9(!1/0=1)", 0);
        reckons("g9(!(1%0=1))", 0);
        reckons("g9(1/0=1|1=1)", 0);
        reckons("g9((1/0=1)|1=1)", 0);
        reckons("g9(1=1|1/0=1)", 9);
        reckons("g9(1=2&1/0=1|1=1)", 9);
        reckons("g9(1=1&1/0=1|1=1)", 0);
        reckons("g9(!(1=2&1/0=1))", 9);
        reckons("g9(1/0=1);g8(1=1)", 8);
        reckons("g1/0(1=2);g8(1=1)", 8);
        reckons("gu*10+h/4(1=1)", 40);
    }

    private static void does() {
        StarDays x = Checks.with(3, 2);
        x.task(11, 0, 50);
        x.task(11, 1, 50);
        x.task(100, 0, 100);
        x.share(0, 0, 40);
        x.share(0, 1, 70);
        due("11: does(2, 0)", x.does(2, 0), -1);
        due("11: does(-1, 0)", x.does(-1, 0), -1);
        due("11: does(0, 3)", x.does(0, 3), -1);
        due("11: does(0, -1)", x.does(0, -1), -1);
        due("11: no draw", x.count(7), 1);
        due("11: does(0, 0) by 22 below 90", x.does(0, 0), 1);
        due("11: it had the least", x.answer(0, 4), 40);
        due("11: X", x.count(7), 39022);
        x.does(0, 1);
        due("11: it had the greatest", x.answer(1, 4), 70);
        Checks.tellLaw(x, 2, "g0(1=1)");
        due("11: nothing, and as hard as can be", x.does(0, 2), 0);
        Checks.tellLaw(x, 2, "g100(1=1)");
        due("11: as much as can be", x.does(0, 2), 1);
        firstDraw(0);
        firstDraw(60);
        lastOfHundred();
        for (int i = 4; i < 200; i++) {
            x.does(1, 1);
        }
        int drawn = x.count(7);
        due("11: 200 are there", x.count(4), 200);
        due("11: a 201st", x.does(1, 1), -1);
        due("11: it is not drawn", x.count(7), drawn);
    }

    /** The first draw is 22 of 100: right if hard is above what it has by 77 at most. */
    private static void firstDraw(int had) {
        for (int hard = 0; hard <= 100; hard++) {
            StarDays x = Checks.with(1, 1);
            x.task(1, 0, hard);
            x.share(0, 0, had);
            due("11: hard " + hard, x.does(0, 0), hard - had <= 77 ? 1 : 0);
        }
    }

    /** The draw behind this seed is 99 of 100: right if hard is not above what the head has. */
    private static void lastOfHundred() {
        int seed = 0;
        while ((25173L * seed + 13849) % 65536 % 100 != 99) {
            seed++;
        }
        for (int hard = 0; hard <= 2; hard++) {
            for (int mode = 0; mode <= 1; mode++) {
                StarDays x = Checks.with(1, 1);
                x.task(1, mode, hard);
                x.share(0, 0, 1);
                x.seed(seed);
                due("11: as hard as it has", x.does(0, 0), hard <= 1 ? 1 : 0);
                x.share(0, 0, 0);
                x.does(0, 0);
                due("11: it has nothing", x.answer(1, 4), 0);
            }
        }
    }

    private static void told() {
        StarDays x = Checks.with(1, 2);
        x.task(1, 0, 0);
        x.now(9);
        due("12: told(2, 0, 9, 1)", x.told(2, 0, 9, 1), -1);
        due("12: told(-1, 0, 9, 1)", x.told(-1, 0, 9, 1), -1);
        due("12: told(0, 1, 9, 1)", x.told(0, 1, 9, 1), -1);
        due("12: told(0, -1, 9, 1)", x.told(0, -1, 9, 1), -1);
        due("12: told(0, 0, 9, 2)", x.told(0, 0, 9, 2), -1);
        due("12: told(0, 0, 9, -1)", x.told(0, 0, 9, -1), -1);
        due("12: told(0, 0, -1, 1)", x.told(0, 0, -1, 1), -1);
        due("12: told(0, 0, 10, 1)", x.told(0, 0, 10, 1), -1);
        due("12: told(0, 0, 3, 1)", x.told(0, 0, 3, 1), 0);
        due("12: of another head, a day too early", x.told(1, 0, 2, 1), -1);
        due("12: the same day", x.told(1, 0, 3, 0), 1);
        due("12: today", x.told(1, 0, 9, 0), 2);
        due("12: no draw", x.count(7), 1);
        due("12: it had none", x.answer(2, 4), -1);
        for (int i = 3; i < 200; i++) {
            due("12: told(0, 0, 9, 1)", x.told(0, 0, 9, 1), i);
        }
        due("12: a 201st", x.told(0, 0, 9, 1), -1);
    }

    private static void answer() {
        StarDays x = Checks.with(1, 2);
        x.task(1, 0, 0);
        x.task(1, 0, 0);
        due("13: answer(0, 0) of none", x.answer(0, 0), -1);
        x.now(4);
        x.told(1, 0, 3, 0);
        x.share(0, 0, 60);
        x.does(0, 1);
        int[][] rows = {{1, 0, 3, 0, -1}, {0, 1, 4, 1, 60}};
        for (int i = 0; i < 2; i++) {
            for (int what = 0; what < 5; what++) {
                due("13: answer(" + i + ", " + what + ")", x.answer(i, what), rows[i][what]);
            }
        }
        due("13: answer(2, 0)", x.answer(2, 0), -1);
        due("13: answer(-1, 0)", x.answer(-1, 0), -1);
        due("13: answer(0, 5)", x.answer(0, 5), -1);
        due("13: answer(0, -1)", x.answer(0, -1), -1);
        due("13: answer(MAX, MIN)", x.answer(MAX, MIN), -1);
    }

    private static void can() {
        StarDays x = Checks.with(1, 2);
        x.task(1, 0, 0);
        x.task(1, 0, 0);
        due("14: of no answers not known", x.can(0, 0, 2), 2);
        Checks.tellAnswers(x, 0, 0, 2, 3);
        Checks.tellAnswers(x, 0, 1, 1, 3);
        Checks.tellAnswers(x, 1, 0, 2, 4);
        due("14: can(0, 0, 0)", x.can(0, 0, 0), 3);
        due("14: can(0, 0, 1)", x.can(0, 0, 1), 2);
        due("14: can(0, 0, 2)", x.can(0, 0, 2), 1);
        due("14: can(0, 1, 1)", x.can(0, 1, 1), 1);
        due("14: can(0, 1, 2)", x.can(0, 1, 2), 0);
        due("14: can(1, 0, 0)", x.can(1, 0, 0), 4);
        due("14: half of them", x.can(1, 0, 2), 2);
        x.does(1, 0);
        due("14: played ones, too", x.can(1, 0, 2), 1);
        due("14: can(0, 0, 3)", x.can(0, 0, 3), -1);
        due("14: can(0, 0, -1)", x.can(0, 0, -1), -1);
        due("14: can(2, 0, 0)", x.can(2, 0, 0), -1);
        due("14: can(-1, 0, 0)", x.can(-1, 0, 0), -1);
        due("14: can(0, 2, 0)", x.can(0, 2, 0), -1);
        due("14: can(0, -1, 0)", x.can(0, -1, 0), -1);
    }

    private static void worse() {
        StarDays x = Checks.with(1, 3);
        x.task(1, 0, 0);
        due("15: none has answers", x.worse(0, 1, 0, 0), -2);
        Checks.tellAnswers(x, 0, 0, 1, 5);
        due("15: one has none", x.worse(0, 1, 0, 0), -2);
        due("15: the other way", x.worse(1, 0, 0, 1), -2);
        Checks.tellAnswers(x, 1, 0, 3, 4);
        // Of nine, four right: C(9,4) = 126; none or one of the five: C(4,4) + 5 C(4,3) = 21.
        due("15: above", x.worse(0, 1, 0, 0), 1);
        due("15: below", x.worse(0, 1, 0, 1), 6);
        due("15: the other way, above", x.worse(1, 0, 0, 0), 125);
        due("15: the other way, below", x.worse(1, 0, 0, 1), 126);
        due("15: worse(0, 0, 0, 0)", x.worse(0, 0, 0, 0), -1);
        due("15: worse(0, 3, 0, 0)", x.worse(0, 3, 0, 0), -1);
        due("15: worse(-1, 0, 0, 0)", x.worse(-1, 0, 0, 0), -1);
        due("15: worse(0, 1, 1, 0)", x.worse(0, 1, 1, 0), -1);
        due("15: worse(0, 1, -1, 0)", x.worse(0, 1, -1, 0), -1);
        due("15: worse(0, 1, 0, 2)", x.worse(0, 1, 0, 2), -1);
        due("15: worse(0, 1, 0, -1)", x.worse(0, 1, 0, -1), -1);
        due("15: NONE ahead of -2", x.worse(0, 2, 0, 2), -1);
        Checks.tellAnswers(x, 2, 0, 1, 1);
        due("15: one answer is enough", x.worse(0, 2, 0, 1), 3);
        due("15: the other way", x.worse(2, 0, 0, 1), 1);
        StarDays y = Checks.with(1, 2);
        y.task(1, 0, 0);
        Checks.tellAnswers(y, 0, 0, 0, 25);
        Checks.tellAnswers(y, 1, 0, 25, 25);
        due("15: 25 of each, above", y.worse(0, 1, 0, 0), 1);
        due("15: 25 of each, below C(50,25)", y.worse(0, 1, 0, 1), 126410606437752L);
        due("15: certain, above", y.worse(1, 0, 0, 0), 1);
        due("15: certain, below", y.worse(1, 0, 0, 1), 1);
        Checks.tellAnswers(y, 0, 0, 0, 1);
        due("15: more than 25", y.worse(0, 1, 0, 0), -2);
        due("15: the other has more", y.worse(1, 0, 0, 0), -2);
    }

    private static void parted() {
        StarDays x = Checks.with(1, 3);
        x.task(1, 0, 0);
        x.task(1, 0, 0);
        x.task(1, 0, 0);
        Checks.tellAnswers(x, 0, 0, 0, 3);
        Checks.tellAnswers(x, 1, 0, 3, 3);
        due("16: without answers at b", x.parted(0, 1, 0, 1, 50), 1);
        due("16: at 1 of 20, by 49", x.parted(0, 1, 0, 1, 49), 0);
        due("16: at the other end", x.parted(1, 0, 0, 1, 50), 0);
        due("16: of a without answers", x.parted(0, 1, 1, 0, 1000), 0);
        Checks.tellAnswers(x, 0, 1, 3, 3);
        Checks.tellAnswers(x, 1, 1, 0, 3);
        due("16: crossed", x.parted(0, 1, 0, 1, 50), 2);
        due("16: crossed from the other end", x.parted(1, 0, 1, 0, 50), 2);
        due("16: worse at both by 1000", x.parted(0, 1, 0, 1, 1000), 0);
        Checks.tellAnswers(x, 0, 2, 0, 3);
        Checks.tellAnswers(x, 1, 2, 3, 3);
        due("16: worse at both", x.parted(0, 1, 0, 2, 50), 0);
        due("16: parted(0, 0, 0, 1, 50)", x.parted(0, 0, 0, 1, 50), -1);
        due("16: parted(0, 1, 0, 0, 50)", x.parted(0, 1, 0, 0, 50), -1);
        due("16: parted(0, 3, 0, 1, 50)", x.parted(0, 3, 0, 1, 50), -1);
        due("16: parted(-1, 1, 0, 1, 50)", x.parted(-1, 1, 0, 1, 50), -1);
        due("16: parted(0, 1, 3, 1, 50)", x.parted(0, 1, 3, 1, 50), -1);
        due("16: parted(0, 1, 0, -1, 50)", x.parted(0, 1, 0, -1, 50), -1);
        due("16: parted(0, 1, 0, 1, 0)", x.parted(0, 1, 0, 1, 0), -1);
        due("16: parted(0, 1, 0, 1, 1001)", x.parted(0, 1, 0, 1, 1001), -1);
        due("16: not by 1", x.parted(0, 1, 0, 1, 1), 0);
        Checks.tellAnswers(x, 2, 0, 1, 1);
        due("16: all odds are within 1000", x.parted(2, 0, 0, 1, 1000), 1);
        due("16: 1 is not within 999", x.parted(2, 0, 0, 1, 999), 0);
        Checks.tellAnswers(x, 0, 1, 23, 23);
        due("16: more than 25 at b", x.parted(0, 1, 0, 1, 50), 1);
        Checks.tellAnswers(x, 0, 0, 0, 23);
        due("16: more than 25 at a", x.parted(0, 1, 0, 1, 50), 0);
    }

    private static void fewest() {
        StarDays x = Checks.with(1, 3);
        due("17: no tasks", x.fewest(-1), 0);
        for (int t = 0; t < 4; t++) {
            x.task(1, 0, 0);
        }
        due("17: no answers", x.fewest(-1), 0);
        due("17: no place", x.fewest(0), -1);
        due("17: no place", x.fewest(1), -1);
        // Head 0 fails at task 0, can the others; head 1 fails at 0 and 1; head 2 fails at 1.
        int[][] can = {{0, 1, 1}, {0, 0, 1}, {1, 0, 1}};
        for (int h = 0; h < 3; h++) {
            for (int t = 0; t < 3; t++) {
                Checks.tellAnswers(x, h, t, can[h][t], 1);
            }
        }
        due("17: fewest(-1)", x.fewest(-1), 2);
        due("17: those who lack the first", x.fewest(0), 3);
        due("17: the tasks, one that nobody did, too", x.fewest(1), 9);
        due("17: those who lack the second", x.fewest(2), 6);
        due("17: its tasks", x.fewest(3), 10);
        due("17: fewest(4)", x.fewest(4), -1);
        due("17: fewest(MAX)", x.fewest(MAX), -1);
        due("17: fewest(-2)", x.fewest(-2), -1);
        due("17: fewest(MIN)", x.fewest(MIN), -1);
        leastRow();
    }

    /** One store does for head 1 alone, and for it with those of whom nothing is known: the least set is told. */
    private static void leastRow() {
        StarDays x = Checks.with(1, 3);
        x.task(1, 0, 0);
        Checks.tellAnswers(x, 1, 0, 0, 1);
        due("17: fewest(-1)", x.fewest(-1), 1);
        due("17: the least set", x.fewest(0), 2);
        Checks.tellAnswers(x, 0, 0, 1, 2);
        due("17: half right is not known", x.fewest(0), 2);
        Checks.tellAnswers(x, 2, 0, 0, 1);
        due("17: both", x.fewest(0), 6);
        Checks.tellAnswers(x, 1, 0, 2, 2);
        due("17: head 1 can do it now", x.fewest(0), 4);
        Checks.tellAnswers(x, 1, 0, 0, 2);
        due("17: and now it can't again", x.fewest(0), 6);
        Checks.tellAnswers(x, 1, 0, 1, 1);
        Checks.tellAnswers(x, 2, 0, 1, 1);
        due("17: nothing is left", x.fewest(-1), 0);
    }

    /** Each of so many heads fails at a task of its own alone: so many stores are wanted. */
    private static void fewestUntold() {
        for (int heads = 4; heads <= 5; heads++) {
            StarDays x = Checks.with(1, heads);
            for (int t = 0; t < heads; t++) {
                x.task(1, 0, 0);
            }
            for (int h = 0; h < heads; h++) {
                for (int t = 0; t < heads; t++) {
                    Checks.tellAnswers(x, h, t, h == t ? 0 : 1, 1);
                }
            }
            due("17: fewest(-1) of " + heads, x.fewest(-1), heads == 4 ? 4 : -2);
            due("17: fewest(6) of " + heads, x.fewest(6), heads == 4 ? 8 : -2);
            due("17: fewest(7) of " + heads, x.fewest(7), heads == 4 ? 8 : -2);
            due("17: fewest(8) of " + heads, x.fewest(8), heads == 4 ? -1 : -2);
            due("17: fewest(-2) of " + heads, x.fewest(-2), -1);
        }
    }

    private static void lacks() {
        StarDays x = Checks.with(3, 2);
        x.task(11, 0, 0);
        x.task(11, 1, 0);
        x.task(100, 0, 0);
        due("18: of no answers", x.lacks(0, 0), 0);
        due("18: none otherwise", x.lacks(0, 1), 0);
        x.told(0, 0, 0, 0);
        due("18: the least set of one", x.lacks(0, 0), 1);
        due("18: none otherwise", x.lacks(0, 1), 0);
        x.told(0, 1, 0, 0);
        due("18: any of them would do", x.lacks(0, 0), 3);
        x.told(0, 2, 0, 1);
        x.told(0, 2, 0, 0);
        due("18: as many this way as that: fewer stores", x.lacks(0, 0), 3);
        due("18: one otherwise", x.lacks(0, 1), 1);
        x.told(0, 2, 0, 0);
        due("18: all three", x.lacks(0, 0), 7);
        due("18: one otherwise", x.lacks(0, 1), 1);
        due("18: another head", x.lacks(1, 0), 0);
        due("18: lacks(2, 0)", x.lacks(2, 0), -1);
        due("18: lacks(-1, 0)", x.lacks(-1, 0), -1);
        due("18: lacks(0, 2)", x.lacks(0, 2), -1);
        due("18: lacks(0, -1)", x.lacks(0, -1), -1);
        StarDays y = Checks.with(3, 1);
        y.task(110, 0, 0);
        y.task(11, 0, 0);
        y.told(0, 0, 0, 0);
        y.told(0, 1, 0, 0);
        due("18: one store ahead of two", y.lacks(0, 0), 2);
    }

    private static void next() {
        StarDays x = Checks.with(3, 1);
        Checks.feedBytes(x, 1, 2);
        due("19: no tasks", x.next(2, 0), -2);
        due("19: the tape is empty", x.count(6), 0);
        Checks.feedBytes(x, 1, 8);
        due("19: NONE ahead of -2", x.next(2, 0), -1);
        x.task(100, 0, 0);
        x.task(11, 0, 0);
        x.task(11, 1, 0);
        x.task(101, 0, 0);
        due("19: it has not so many", x.next(2, 0), -1);
        Checks.feedBytes(x, 1, 2, 3, 4, 7, 0);
        due("19: next(1, 0)", x.next(1, 0), -1);
        due("19: next(7, 0)", x.next(7, 0), -1);
        due("19: next(-2, 0)", x.next(-2, 0), -1);
        due("19: next(2, 2)", x.next(2, 2), -1);
        due("19: next(2, -1)", x.next(2, -1), -1);
        due("19: the tape stays", x.count(6), 20);
        // Right by the guesses 1 2 3 4 7 0: task 0 1 1 1 0 0 1, task 1 0 0 0 1 0 1, task 2 1 1 0 1 0 1, task 3 0 1 0 0 0 1.
        due("19: the lowest of like ones", x.next(6, 0), 0);
        due("19: the tape is empty", x.count(6), 0);
        Checks.feedBytes(x, 1, 2, 3, 4, 7, 0);
        due("19: pairs", x.next(6, 1), 8);
        Checks.feedBytes(x, 1, 2, 3, 4);
        due("19: four guesses", x.next(4, 0), 0);
        Checks.feedBytes(x, 1, 2, 3, 4);
        due("19: their pairs", x.next(4, 1), 3);
        Checks.feedBytes(x, 1, 3);
        due("19: by mode 1", x.next(2, 0), 2);
        Checks.feedBytes(x, 5, 5);
        due("19: no pair", x.next(2, 0), 0);
        Checks.feedBytes(x, 5, 5);
        due("19: no pair", x.next(2, 1), 0);
        Checks.feedBytes(x, 0, 2, 2);
        due("19: task 1 alone parts them", x.next(3, 0), 1);
        for (int t = 4; t < 8; t++) {
            x.task(1, 0, 0);
        }
        Checks.feedBytes(x, 0, 0, 1, 1, 7, 7);
        due("19: of eight tasks", x.next(6, 1), 8);
        Checks.feedBytes(x, 1, 2, 8);
        due("19: a store that is not there, behind the guesses", x.next(2, 1), 1);
        Checks.feedBytes(x, 1, 2, 8);
        due("19: a store that is not there", x.next(3, 1), -1);
        due("19: the tape is empty", x.count(6), 0);
        Checks.feedBytes(x, 1, 255);
        due("19: 255", x.next(2, 1), -1);
    }

    private static void purest() {
        StarDays x = Checks.with(4, 1);
        due("20: no tasks", x.purest(0), -1);
        x.task(32, 0, 0);
        x.task(64, 0, 0);
        x.task(23, 0, 0);
        x.task(105, 1, 0);
        due("20: 5 of 6", x.purest(0), 3);
        due("20: the lowest of like ones", x.purest(1), 0);
        due("20: 1 of 6", x.purest(2), 3);
        due("20: none uses it", x.purest(3), -1);
        due("20: purest(4)", x.purest(4), -1);
        due("20: purest(-1)", x.purest(-1), -1);
        due("20: purest(MIN)", x.purest(MIN), -1);
    }

    private static void old() {
        StarDays x = new StarDays();
        due("21: old(-1, 5, 1)", x.old(-1, 5, 1), -1);
        due("21: old(100, 5, 1)", x.old(100, 5, 1), -1);
        due("21: old(5, -1, 1)", x.old(5, -1, 1), -1);
        due("21: old(5, 11, 1)", x.old(5, 11, 1), -1);
        due("21: old(5, 5, -1)", x.old(5, 5, -1), -1);
        due("21: old(5, 5, 2)", x.old(5, 5, 2), -1);
        due("21: old(0, 0, 0)", x.old(0, 0, 0), 1);
        due("21: old(99, 10, 1)", x.old(99, 10, 1), 2);
        for (int i = 3; i <= 40; i++) {
            due("21: old(5, 5, 1)", x.old(5, 5, 1), i);
        }
        due("21: a 41st", x.old(5, 5, 1), -1);
        due("21: count(5)", x.count(5), 40);
    }

    private static void back() {
        StarDays x = new StarDays();
        backIs(x, 0, 100, 0);
        x.old(50, 5, 0);
        backIs(x, 0, 100, 0);
        x.old(50, 6, 0);
        backIs(x, 0, 50, 0);
        x.old(49, 6, 1);
        backIs(x, 50, 50, 0);
        x.old(99, 10, 1);
        backIs(x, 50, 100, 1);
        x.old(60, 10, 0);
        x.old(0, 10, 1);
        backIs(x, 50, 50, 1);
        due("22: back(3)", x.back(3), -1);
        due("22: back(-1)", x.back(-1), -1);
        StarDays full = new StarDays();
        for (int i = 0; i < 40; i++) {
            full.old(i, 10, i < 20 ? 1 : 0);
        }
        backIs(full, 20, 20, 0);
        StarDays y = new StarDays();
        y.old(99, 9, 1);
        backIs(y, 100, 100, 0);
        StarDays z = new StarDays();
        z.old(0, 9, 0);
        backIs(z, 0, 0, 0);
    }

    private static void backIs(StarDays x, int first, int last, int otherwise) {
        due("22: back(0)", x.back(0), first);
        due("22: back(1)", x.back(1), last);
        due("22: back(2)", x.back(2), otherwise);
    }

    private static void lasts() {
        StarDays x = Checks.with(2, 2);
        x.task(1, 0, 0);
        due("23: for ever", x.lasts(0, 0, 0, 100), 100);
        Checks.tellLaw(x, 0, "g100-b*10(n=1&d=0&a=b+1)");
        due("23: to b of 5", x.lasts(0, 0, 0, 50), 5);
        due("23: to b of 4", x.lasts(0, 0, 0, 51), 4);
        due("23: of 1", x.lasts(0, 0, 0, 1), 9);
        x.told(0, 0, 0, 1);
        x.told(0, 0, 0, 1);
        due("23: what it did does not count", x.lasts(0, 0, 0, 51), 4);
        x.share(1, 0, 50);
        due("23: share hundredths", x.lasts(1, 0, 0, 45), 1);
        due("23: not even for 0", x.lasts(1, 0, 0, 51), -2);
        Checks.tellLaw(x, 0, "g0(b=3);g60(1=1)");
        due("23: for all from 0 on", x.lasts(0, 0, 0, 60), 2);
        Checks.tellLaw(x, 0, "g60(b<100)");
        due("23: to 99", x.lasts(0, 0, 0, 60), 99);
        Checks.tellLaw(x, 0, "g60(b<101)");
        due("23: to 100", x.lasts(0, 0, 0, 60), 100);
        x.now(30);
        Checks.tellLaw(x, 0, "g60(y=30&t=0&u=1&h=0&s=100)");
        due("23: the day is now", x.lasts(0, 0, 0, 60), 100);
        due("23: lasts(2, 0, 0, 1)", x.lasts(2, 0, 0, 1), -1);
        due("23: lasts(-1, 0, 0, 1)", x.lasts(-1, 0, 0, 1), -1);
        due("23: lasts(0, 1, 0, 1)", x.lasts(0, 1, 0, 1), -1);
        due("23: lasts(0, -1, 0, 1)", x.lasts(0, -1, 0, 1), -1);
        due("23: lasts(0, 0, 1, 1), not used", x.lasts(0, 0, 1, 1), -1);
        due("23: lasts(0, 0, 2, 1)", x.lasts(0, 0, 2, 1), -1);
        due("23: lasts(0, 0, -1, 1)", x.lasts(0, 0, -1, 1), -1);
        due("23: lasts(0, 0, 0, 0)", x.lasts(0, 0, 0, 0), -1);
        due("23: lasts(0, 0, 0, 101)", x.lasts(0, 0, 0, 101), -1);
    }

    private static void mistakes() {
        StarDays x = Checks.with(1, 2);
        x.task(1, 0, 0);
        x.task(1, 0, 0);
        due("24: mistakes(0, 0, -1)", x.mistakes(0, 0, -1), -1);
        due("24: mistakes(0, 0, 1001)", x.mistakes(0, 0, 1001), -1);
        due("24: mistakes(2, 0, 1)", x.mistakes(2, 0, 1), -1);
        due("24: mistakes(-1, 0, 1)", x.mistakes(-1, 0, 1), -1);
        due("24: mistakes(0, 2, 1)", x.mistakes(0, 2, 1), -1);
        due("24: mistakes(0, -1, 1)", x.mistakes(0, -1, 1), -1);
        for (int i = 1; i <= 12; i++) {
            due("24: mistakes", x.mistakes(0, 1, i % 2 * 1000), i);
        }
        due("24: a 13th", x.mistakes(0, 1, 0), -1);
        due("24: of another task", x.mistakes(0, 0, 0), 1);
        due("24: of another head", x.mistakes(1, 1, 0), 1);
    }

    private static void curve() {
        StarDays x = Checks.with(1, 3);
        x.task(1, 0, 0);
        x.task(1, 0, 0);
        due("25: none, better", x.curve(0, 0, 0), 0);
        due("25: none, as others", x.curve(0, 0, 1), 0);
        due("25: none", x.curve(0, 0, 2), 0);
        for (int n : new int[] {5, 6, 6, 4, 5, 1}) {
            x.mistakes(0, 0, n);
        }
        due("25: better, like ones too", x.curve(0, 0, 0), 3);
        due("25: nobody else has the place", x.curve(0, 0, 1), 0);
        due("25: how many", x.curve(0, 0, 2), 6);
        x.mistakes(0, 0, 1);
        x.mistakes(0, 0, 0);
        due("25: the row at the end", x.curve(0, 0, 0), 4);
        for (int n : new int[] {5, 5, 8, 3}) {
            x.mistakes(1, 0, n);
        }
        due("25: as one other", x.curve(0, 0, 1), 1);
        for (int n : new int[] {1, 7, 2, 0, 5}) {
            x.mistakes(2, 0, n);
        }
        due("25: between two others", x.curve(0, 0, 1), 4);
        due("25: of another task", x.curve(0, 1, 1), 0);
        x.mistakes(0, 1, 1000);
        due("25: one alone", x.curve(0, 1, 0), 1);
        due("25: curve(0, 0, 3)", x.curve(0, 0, 3), -1);
        due("25: curve(0, 0, -1)", x.curve(0, 0, -1), -1);
        due("25: curve(3, 0, 0)", x.curve(3, 0, 0), -1);
        due("25: curve(-1, 0, 0)", x.curve(-1, 0, 0), -1);
        due("25: curve(0, 2, 0)", x.curve(0, 2, 0), -1);
        due("25: curve(0, -1, 0)", x.curve(0, -1, 0), -1);
    }

    private static void asks() {
        StarDays x = Checks.with(1, 2);
        due("26: asks(0, 0)", x.asks(0, 0), true);
        due("26: asks(0, 0), it was", x.asks(0, 0), false);
        due("26: asks(1, 0)", x.asks(1, 0), true);
        due("26: asks(0, 1), not yet", x.asks(0, 1), false);
        due("26: asks(0, -1)", x.asks(0, -1), false);
        due("26: asks(2, 0)", x.asks(2, 0), false);
        due("26: asks(-1, 0)", x.asks(-1, 0), false);
        x.now(299);
        due("26: asks(0, 299)", x.asks(0, 299), true);
        due("26: asks(0, 1), past", x.asks(0, 1), true);
        due("26: asks(0, 300)", x.asks(0, 300), false);
    }

    private static void unasked() {
        StarDays x = Checks.with(1, 2);
        x.task(1, 0, 0);
        due("27: unasked(2)", x.unasked(2), -1);
        due("27: unasked(-1)", x.unasked(-1), -1);
        due("27: no answers", x.unasked(0), 0);
        x.does(0, 0);
        x.does(0, 0);
        due("27: one day", x.unasked(0), 1);
        x.now(5);
        x.told(0, 0, 3, 0);
        x.told(1, 0, 3, 0);
        x.told(0, 0, 3, 0);
        x.told(0, 0, 5, 0);
        due("27: three days", x.unasked(0), 3);
        due("27: of another", x.unasked(1), 1);
        x.asks(1, 5);
        due("27: asked on a day without tasks", x.unasked(1), 1);
        x.asks(0, 3);
        due("27: two are left", x.unasked(0), 2);
        due("27: another was not asked", x.unasked(1), 1);
    }

    private static void again() {
        StarDays x = Checks.with(1, 1);
        x.task(1, 0, 100);
        due("28: none", x.again(), 0);
        x.share(0, 0, 0);
        for (int i = 0; i < 5; i++) {
            x.told(0, 0, 0, 1);
            due("28: none of them is right", x.does(0, 0), 0);
        }
        due("28: none as now", x.again(), 0);
        x.share(0, 0, 100);
        due("28: all five, not those that were told", x.again(), 5);
        Checks.tellLaw(x, 0, "g100(n>4)");
        due("28: told ones were done, too", x.again(), 3);
        due("28: nothing is left of the first time", x.again(), 3);
        Checks.tellLaw(x, 0, "g100(a>4)");
        due("28: by all that it has done", x.again(), 3);
        due("28: nothing is left of the first time", x.again(), 3);
        x.now(50);
        Checks.tellLaw(x, 0, "g100(y=0&d%300=0)");
        due("28: each on its day", x.again(), 5);
        due("28: once more", x.again(), 5);
        int drawn = x.count(7);
        Checks.tellLaw(x, 0, "g50(1=1)");
        int right = 0;
        int draw = 1;
        for (int i = 0; i < 5; i++) {
            draw = (25173 * draw + 13849) % 65536;
            right += draw % 100 < 50 ? 1 : 0;
        }
        due("28: with the seed at first", x.again(), right);
        x.seed(777);
        right = 0;
        draw = 777;
        for (int i = 0; i < 5; i++) {
            draw = (25173 * draw + 13849) % 65536;
            right += draw % 100 < 50 ? 1 : 0;
        }
        due("28: with the seed told last", x.again(), right);
        due("28: X stays", x.count(7), 777);
        due("28: X was another", drawn == 777, false);
        due("28: no answers more", x.count(4), 10);
    }

    private static void check() {
        StarDays x = Checks.with(1, 2);
        x.task(1, 0, 0);
        due("29: none, none", x.check(0), -1);
        due("29: check(1) of an empty tape", x.check(1), -2);
        due("29: check(-1)", x.check(-1), -2);
        due("29: check(MIN)", x.check(MIN), -2);
        due("29: check(MAX)", x.check(MAX), -2);
        due("29: check(2^28)", x.check(1 << 28), -2);
        x.now(3);
        x.told(1, 0, 2, 1);
        x.told(0, 0, 3, 0);
        int[] right = {1, 0, 2, 1, 0, 0, 3, 0};
        checked(x, 2, right, -1);
        checked(x, 1, right, 4);
        checked(x, 0, right, 0);
        for (int i = 0; i < 8; i++) {
            int[] wrong = right.clone();
            wrong[i] += 256;
            checked(x, 2, wrong, i);
        }
        checked(x, 3, new int[] {1, 0, 2, 1, 0, 0, 3, 0, 0, 0, 0, 0}, 8);
        Checks.feedNumbers(x, right);
        due("29: it has not so many", x.check(3), -2);
        due("29: the tape stays", x.count(6), 40);
        StarDays y = Checks.with(1, 1);
        y.task(1, 0, 0);
        int[] twelve = new int[48];
        for (int i = 0; i < 12; i++) {
            y.told(0, 0, 0, i % 2);
            twelve[4 * i + 3] = i % 2;
        }
        checked(y, 12, twelve, -1);
        Checks.feedNumbers(y, new int[15]);
        due("29: check(4) of 60 bytes", y.check(4), -2);
        y.check(0);
        Checks.feedNumbers(y, twelve);
        due("29: check(13) of 50 numbers", y.check(13), -2);
    }

    private static void checked(StarDays x, int n, int[] numbers, int due) {
        Checks.feedNumbers(x, numbers);
        due("29: check(" + n + ")", x.check(n), due);
        due("29: the tape is empty", x.count(6), 0);
    }

    private static void count() {
        StarDays x = Checks.with(2, 3);
        x.task(1, 0, 0);
        x.now(8);
        x.does(0, 0);
        x.does(0, 0);
        x.old(1, 1, 1);
        Checks.tellLaw(x, 1, "g1(n=0);g2(n=1);g3(n=2)");
        x.feed(0, 0, 0, 0, 0);
        x.feed(0, 0, 0, 0, 0);
        x.seed(99);
        int[] due = {8, 2, 3, 1, 2, 1, 40, 99, -1, -1, 0, 3, -1, -1, -1, -1, -1, -1};
        for (int what = 0; what < due.length; what++) {
            due("30: count(" + what + ")", x.count(what), due[what]);
        }
        due("30: count(-1)", x.count(-1), -1);
        due("30: count(MIN)", x.count(MIN), -1);
        due("30: count(MAX)", x.count(MAX), -1);
    }
}
