/** Each sentence of promises 9 and 10, and of THE LAW, that names a boundary case. */
public final class BoundsOfLawTest {
    private static final Checks CHECKS = new Checks("BoundsOfLawTest");
    private static final int MIN = Integer.MIN_VALUE;
    private static final int MAX = Integer.MAX_VALUE;

    public static void main(String[] args) {
        noSuchLaw();
        notSoManyBytes();
        tapeIsEmptyThen();
        textOfOneByte();
        textOf160Bytes();
        textBeforeStays();
        noneAtFirst();
        twelveClauses();
        thirteenthClauseAtItsLetter();
        fiveDigits();
        sixthDigit();
        sixOpen();
        seventhOpen();
        denialEndsWithItsPiece();
        amountStandsAheadOfTheClause();
        theEndToo();
        noBlanks();
        firstFaultFromTheLeft();
        faultsByTheModel();
        belowAndAbove();
        firstThatHolds();
        noneHolds();
        comparedAtTheLine();
        wrapsAround();
        refusedCondition();
        refusedOverAndOver();
        refusedAmount();
        askedAsMatters();
        noSuchGives();
        roundedDown();
        lettersOfNever();
        lettersOfDays();
        lettersOfTheMost();
        lettersOfOthers();
        CHECKS.end();
    }

    private static void due(String call, long got, long want) {
        CHECKS.due(call, got, want);
    }

    private static void law(String text, int want) {
        due("9: " + text, Checks.tellLaw(Checks.with(1, 1), 0, text), want);
    }

    private static void fault(String text, int number, int place) {
        law(text, -1000 * number - place);
    }

    /** What one store gives by the text, to a task that uses 3 of it and is 40 hard. */
    private static void gives(String text, int want) {
        StarDays x = Checks.with(1, 1);
        x.task(3, 0, 40);
        due("9: clauses of " + text, Checks.tellLaw(x, 0, text) > 0 ? 1 : 0, 1);
        due("10: by " + text, x.gives(0, 0, 0), want);
    }

    private static void refused(String call, Worlds.Call made) {
        Worlds.refused(CHECKS, call, made, -1);
    }

    /** 9: n (1 to 160); NONE: no such ones (the tape stays). */
    private static void noSuchLaw() {
        for (int k : new int[] {MIN, -1, 2, 5, 6, MAX}) {
            refused("9: law(" + k + ", 7)", x -> x.law(k, 7));
        }
        for (int n : new int[] {MIN, -1, 0, 161, 200, 201, MAX}) {
            refused("9: law(0, " + n + ")", x -> x.law(0, n));
            Worlds.refused(CHECKS, "9: law(0, " + n + ") of a full tape", Worlds.full(), x -> x.law(0, n), -1);
        }
        StarDays x = Checks.with(1, 1);
        Checks.feedText(x, "x");
        due("9: NONE ahead of a FAULT", x.law(1, 1), -1);
        due("9: the FAULT then", x.law(0, 1), -1000);
    }

    /** 9: NONE: it has not so many (the tape stays). */
    private static void notSoManyBytes() {
        refused("9: law(0, 21) of 20", x -> x.law(0, 21));
        Worlds.refused(CHECKS, "9: law(0, 1) of 0", Worlds.smallOfEmptyTape(), x -> x.law(0, 1), -1);
        StarDays x = Checks.with(1, 1);
        Checks.feedText(x, "g0" + "+1".repeat(6) + "(11=11)");
        Worlds.refused(CHECKS, "9: law(0, 41) of 40", fedZeros(2), y -> y.law(0, 41), -1);
        due("9: law(0, 21) of 40", x.law(0, 21), 1);
        Checks.feedText(x, "g0" + "+1".repeat(6) + "(1=1)");
        due("9: law(0, 20) of 20, past the text", x.law(0, 20), -1019);
        Checks.feedText(x, "g0" + "+1".repeat(6) + "(11=1)");
        due("9: law(0, 20) of 20", x.law(0, 20), 1);
    }

    /** A world whose tape has so many times twenty bytes. */
    private static StarDays fedZeros(int twenties) {
        StarDays x = Worlds.small();
        for (int i = 1; i < twenties; i++) {
            x.feed(0, 0, 0, 0, 0);
        }
        return x;
    }

    /** 9: empty then, behind a law and behind a FAULT. */
    private static void tapeIsEmptyThen() {
        StarDays x = Checks.with(1, 1);
        Checks.feedText(x, "g1(1=1)" + "0".repeat(100));
        due("9: law of 7 bytes", x.law(0, 7), 1);
        due("9: all of the tape is empty", x.count(6), 0);
        due("9: nothing is left of it", x.law(0, 1), -1);
        Checks.feedText(x, "g1(1=1)" + "0".repeat(190));
        due("9: a FAULT", x.law(0, 8), -1007);
        due("9: all of the tape is empty", x.count(6), 0);
        due("9: feed begins anew", x.feed(0, 0, 0, 0, 0), 20);
    }

    private static void textOfOneByte() {
        fault("g", 1, 1);
        fault("n", 1, 0);
        fault(";", 1, 0);
        fault("1", 1, 0);
        fault("(", 1, 0);
        fault("[", 1, 0);
        fault("!", 1, 0);
        fault("" + (char) 0, 1, 0);
        fault("" + (char) 255, 1, 0);
    }

    /** 9: at most 160 bytes. */
    private static void textOf160Bytes() {
        String longest = "g" + "1+".repeat(76) + "1(1=11)";
        due("9: bytes of the longest", longest.length(), 160);
        StarDays x = Checks.with(1, 1);
        x.task(1, 0, 0);
        Checks.feedText(x, longest + "+");
        due("9: law(0, 160)", x.law(0, 160), 1);
        due("10: it does not hold", x.gives(0, 0, 0), 0);
        Checks.feedText(x, "g" + "1+".repeat(77) + "1(1=1)");
        due("9: law(0, 161)", x.law(0, 161), -1);
        due("9: law(0, 160), the end stands where ) should", x.law(0, 160), -1160);
        Checks.feedText(x, "g" + "1+".repeat(75) + "1+1(1=1)");
        due("9: law(0, 159)", x.law(0, 159), 1);
        due("10: all of it counts", x.gives(0, 0, 0), 77);
        fault("g1(n=0);g" + "1+".repeat(75) + "1", 1, 160);
        fault("g" + "[".repeat(159), 5, 7);
        fault("g1(" + "!".repeat(157), 5, 8);
    }

    /** 9: a FAULT: the TEXT before stays. */
    private static void textBeforeStays() {
        StarDays x = Checks.with(2, 1);
        x.task(11, 0, 0);
        due("9: a FAULT ahead of any text", Checks.tellLaw(x, 0, "g5(1=1"), -1006);
        due("9: no text still", x.gives(0, 0, 0), 100);
        due("9: no clauses", x.count(10), 0);
        due("9: a text", Checks.tellLaw(x, 0, "g5(1=2);g6(1=1)"), 2);
        String[] texts = {"h", "g7(1=1)g", "g123456", "g[[[[[[[", "g7(1=1);".repeat(12) + "g", "g7(1=1);g8(1=1);g9(1=1);"};
        int[] faults = {-1000, -1007, -2006, -5007, -4096, -1024};
        for (int i = 0; i < texts.length; i++) {
            due("9: " + texts[i], Checks.tellLaw(x, 0, texts[i]), faults[i]);
            due("9: gives as before", x.gives(0, 0, 0), 6);
            due("9: clauses as before", x.count(10), 2);
            due("9: the other store's", x.gives(0, 0, 1), 100);
        }
        due("9: in place of the one before", Checks.tellLaw(x, 0, "g7(1=1)"), 1);
        due("9: in place of the one before", x.gives(0, 0, 0), 7);
        due("9: clauses", x.count(10), 1);
    }

    /** 9: none at first: it gives 100. */
    private static void noneAtFirst() {
        StarDays x = Checks.with(6, 6);
        x.task(111111, 1, 100);
        for (int k = 0; k < 6; k++) {
            due("9: clauses of no text", x.count(10 + k), 0);
            due("10: by no text", x.gives(5, 0, k), 100);
        }
        x.share(5, 5, 1);
        due("10: share hundredths of 100", x.gives(5, 0, 5), 1);
    }

    /** 9: CLAUSES (12 at most). */
    private static void twelveClauses() {
        for (int clauses = 1; clauses <= 12; clauses++) {
            law("g1(n=1);".repeat(clauses - 1) + "g9(n=0)", clauses);
            gives("g1(n=1);".repeat(clauses - 1) + "g9(n=0)", 9);
            gives("g1(n=1);".repeat(clauses - 1) + "g9(n=1)", 0);
        }
    }

    /** 9: 4 a 13th CLAUSE, at its letter (if that can stand there). */
    private static void thirteenthClauseAtItsLetter() {
        String twelve = "g1(n=0);".repeat(12);
        fault(twelve + "g", 4, 96);
        fault(twelve + "gg", 4, 96);
        fault(twelve + "g1(n=0);g1(n=0)", 4, 96);
        fault(twelve + "g1234567", 4, 96);
        fault(twelve, 1, 96);
        fault(twelve + "n", 1, 96);
        fault(twelve + ";", 1, 96);
        fault(twelve + "G", 1, 96);
        law(twelve.substring(0, 95), 12);
        fault(twelve.substring(0, 94), 1, 94);
        fault(twelve.substring(0, 95) + "g1(n=0)", 1, 95);
        fault("x" + twelve + "g", 1, 0);
    }

    /** 9: a number of one to five digits. */
    private static void fiveDigits() {
        gives("g9(0=00000)", 9);
        gives("g9(7=00007)", 9);
        gives("g9(99999>99998)", 9);
        gives("g9(10000*10=99999+1)", 9);
        law("g99999(99999=99999)", 1);
        law("g12345*12345(12345<12345)", 1);
    }

    /** 9: 2 a sixth digit, at it. */
    private static void sixthDigit() {
        fault("g123456", 2, 6);
        fault("g000000(n=0)", 2, 6);
        fault("g1234567(n=0)", 2, 6);
        fault("g12345", 1, 6);
        fault("g12345n", 1, 6);
        fault("g1+123456(n=0)", 2, 8);
        fault("g[123456](n=0)", 2, 7);
        fault("g1(123456=0)", 2, 8);
        fault("g1(0=123456)", 2, 10);
        fault("g1(n=0);g123456", 2, 14);
    }

    /** 9: six of ( [ ! that are open in one another are fine. */
    private static void sixOpen() {
        law("g[[[[[[1]]]]]](1=1)", 1);
        law("g1((((((1=1))))))", 1);
        law("g1(!!!!!1=1)", 1);
        law("g1([[[[[1]]]]]=1)", 1);
        law("g1(1=[[[[[1]]]]])", 1);
        law("g1(!(!(!1=1)))", 1);
        law("g1((!(![1]=1)))", 1);
        law("g1(!!!!!1=1|!!!!!1=1&!!!!!1=1)", 1);
        law("g[[[[[[1]]]]]]+[[[[[[2]]]]]](1=1);g[[[[[[1]]]]]](1=1)", 2);
        gives("g[[[[[[1+1]]]]]]*4((((([1]=1)))))", 8);
    }

    /** 9: 5 a seventh of ( [ ! that are open in one another, at it (the ( of the CLAUSE counts). */
    private static void seventhOpen() {
        fault("g[[[[[[[1", 5, 7);
        fault("g[[[[[[1+[1", 5, 9);
        fault("g1(((((((1=1", 5, 8);
        fault("g1((((((!1=1", 5, 8);
        fault("g1(((((([1]=1", 5, 8);
        fault("g1((((((1=[1]", 5, 10);
        fault("g1(!!!!!!1=1)", 5, 8);
        fault("g1(!!!!!(1=1))", 5, 8);
        fault("g1(!!!!![1]=1)", 5, 8);
        fault("g1(!!!!!1=[1])", 5, 10);
        fault("g1([[[[[[1", 5, 8);
        fault("g1(1=[[[[[[1", 5, 10);
        fault("g1(!(!(![1]=1)))", 5, 8);
        fault("g1(!(!([1+[1]]=1)))", 5, 10);
        fault("g1((((((1=1|(1=1", 5, 12);
        fault("g1((((((1=1&!1=1", 5, 12);
        fault("g1((((((1(", 1, 9);
        fault("g1((((((1=1(", 1, 11);
        fault("g[[[[[[1[", 1, 8);
        fault("g[[[[[[!", 1, 7);
        fault("g[[[[[[(", 1, 7);
        fault("g1((((((1=!", 1, 10);
    }

    /** 9: a ! is open till its PIECE ends. */
    private static void denialEndsWithItsPiece() {
        law("g1(!1=1&!1=1&!1=1&!1=1&!1=1&!1=1&!1=1)", 1);
        law("g1(!1=1|!1=1|!1=1|!1=1|!1=1|!1=1|!1=1)", 1);
        law("g1(!(!1=1)&(((((1=1))))))", 1);
        law("g1(!!!!!1=1&(((((1=1))))))", 1);
        fault("g1(!(((((1=1", 5, 8);
        fault("g1(!!!!1=1&((((((1=1", 5, 16);
        fault("g1(!!!!([1]=1", 5, 8);
        law("g1(!!!!(1=1)&[1]=1)", 1);
        fault("g1(!!!!!1+[1]=1", 5, 10);
        law("g1(!!!!1+[1]=1&[[[[[1]]]]]=1)", 1);
    }

    /** 9: the E of the CLAUSE stands ahead of its (. */
    private static void amountStandsAheadOfTheClause() {
        law("g[[[[[[1]]]]]]((((([1]=1)))))", 1);
        fault("g[[[[[[1]]]]]](((((([1]=1", 5, 20);
        law("g1(1=1);g[[[[[[1]]]]]](1=1)", 2);
        fault("g1(1=1);g[[[[[[[1", 5, 15);
        fault("g1[(1=1)", 1, 2);
    }

    /** 9: 1 what can't stand there (the end, too): the text ends behind each of its signs. */
    private static void theEndToo() {
        String text = "g1+[n-2]*33(!(d<4|b>5&a=6)&h%7=u/8);gs(t=y)";
        law(text, 2);
        for (int n = 1; n < text.length(); n++) {
            if (n == text.indexOf(';')) {
                law(text.substring(0, n), 1);
            } else {
                fault(text.substring(0, n), 1, n);
            }
        }
        // Of a longer tape the end is where the text ends, whatever comes behind it.
        StarDays x = Checks.with(1, 1);
        Checks.feedText(x, text);
        due("9: law(0, 5)", x.law(0, 5), -1005);
    }

    /** 9: no blanks, and no sign but those that are named. */
    private static void noBlanks() {
        String text = "g1+[n-2](!(d<4|b>5)&a=6);gs(t=y)";
        for (int place = 0; place <= text.length(); place++) {
            for (char sign : new char[] {' ', '\t', '\n', 0, 'x', 'G', 'N', '{', '~', 127, 128, 233, 255}) {
                fault(text.substring(0, place) + sign + text.substring(place), 1, place);
            }
        }
    }

    private static void firstFaultFromTheLeft() {
        fault("g123456+[[[[[[[", 2, 6);
        fault("g[[[[[[[123456", 5, 7);
        fault("g x123456", 1, 1);
        fault("g1(n=0);;g123456", 1, 8);
        fault("g1(n=0)" + ";g1(n=0)".repeat(11) + "x;g", 1, 95);
        fault("g1(n=0)" + ";g1(n=0)".repeat(10) + ";g123456(n=0);g1(n=0)", 2, 94);
    }

    /** 9: every sign in every place of some texts, against the model's first fault. */
    private static void faultsByTheModel() {
        String signs = "g()[]!;|&<>=+-*/%ndbahusty019 ";
        String[] texts = {"g[[n]](!(!(b=1)))", "g1(a<2&(!h>3|u=4));g9(1=1)", "g12345-0(((((([y]=1", "g[[[[[[1]]]]]](!!!!!s=1)"};
        StarDays x = Checks.with(1, 1);
        int calls = 2;
        for (String text : texts) {
            for (int place = 0; place < text.length(); place++) {
                for (char sign : signs.toCharArray()) {
                    String changed = text.substring(0, place) + sign + text.substring(place + 1);
                    if (calls > 500) {
                        x = Checks.with(1, 1);
                        calls = 2;
                    }
                    due("9: " + changed, Checks.tellLaw(x, 0, changed), byTheModel(changed));
                    calls += 3;
                }
            }
        }
    }

    private static int byTheModel(String text) {
        try {
            return LawModel.of(text).clauses();
        } catch (LawModel.Fault fault) {
            return fault.told;
        }
    }

    /** 9: below 0: 0; above 100: 100. */
    private static void belowAndAbove() {
        gives("g0-1(1=1)", 0);
        gives("g1-1(1=1)", 0);
        gives("g2-1(1=1)", 1);
        gives("g0(1=1)", 0);
        gives("g99(1=1)", 99);
        gives("g100(1=1)", 100);
        gives("g101(1=1)", 100);
        gives("g99999(1=1)", 100);
        gives("g0-99999(1=1)", 0);
        gives("g200-150(1=1)", 50);
        gives("g0-50+150(1=1)", 100);
    }

    /** 9: of the first CLAUSE whose C holds. */
    private static void firstThatHolds() {
        gives("g1(1=1);g2(1=1)", 1);
        gives("g1(1=2);g2(1=1);g3(1=1)", 2);
        gives("g0-1(1=1);g2(1=1)", 0);
        gives("g200(1=1);g2(1=1)", 100);
    }

    /** 9: none: 0. */
    private static void noneHolds() {
        gives("g100(1=2)", 0);
        gives("g100(n=1);g100(a>0);g100(d<300)", 0);
        gives("g100(1<1|1>1&1=1|!1=1)", 0);
    }

    private static void comparedAtTheLine() {
        gives("g9(4<5)", 9);
        gives("g9(5<5)", 0);
        gives("g9(6<5)", 0);
        gives("g9(4>5)", 0);
        gives("g9(5>5)", 0);
        gives("g9(6>5)", 9);
        gives("g9(4=5)", 0);
        gives("g9(5=5)", 9);
        gives("g9(6=5)", 0);
        gives("g9(0-1<0)", 9);
        gives("g9(99999*99999<0-99999*20000)", 0);
    }

    /** 9: all is reckoned with 32 bits, as the machine does. */
    private static void wrapsAround() {
        gives("g9(32767*65536+65535>0)", 9);
        gives("g9(32767*65536+65535+1<0)", 9);
        gives("g9(32767*65536+65535+1=32768*65536)", 9);
        gives("g9(0-32768*65536-1=32767*65536+65535)", 9);
        gives("g9(65536*65536=0)", 9);
        gives("g9(46341*46341<0)", 9);
        gives("g9(46340*46340>0)", 9);
        gives("g9([0-32768*65536]/[0-1]=32768*65536)", 9);
        gives("g9([0-32768*65536]%[0-1]=0)", 9);
        gives("g9(0-7/2=0-3)", 9);
        gives("g9([0-7]/2=0-3)", 9);
        gives("g9([0-7]%2=0-1)", 9);
        gives("g9(7%[0-2]=1)", 9);
        gives("g9(32768*65536<32767*65536)", 9);
        gives("g32768*65536(1=1)", 0);
        gives("g32768*65536-1(1=1)", 100);
        gives("g65536*65536+5(1=1)", 5);
    }

    /** 9: what is divided by 0 is REFUSED: the C as a whole does not hold (through any !, ( ) and |). */
    private static void refusedCondition() {
        gives("g9(1/0=0)", 0);
        gives("g9(1%0=0)", 0);
        gives("g9(0/0=0)", 0);
        gives("g9(0=1/0)", 0);
        gives("g9(1/n=0)", 0);
        gives("g9(!1/0=0)", 0);
        gives("g9(!!1/0=0)", 0);
        gives("g9(!(1/0=0))", 0);
        gives("g9(!(!(1/0=0)))", 0);
        gives("g9(1/0=0|1=1)", 0);
        gives("g9((1/0=0)|1=1)", 0);
        gives("g9(!(1/0=0|1=1)|1=1)", 0);
        gives("g9(1=2|1/0=0|1=1)", 0);
        gives("g9(1=1&1/0=0|1=1)", 0);
        gives("g9(0*[1/0]=0)", 0);
        gives("g9([1/[1-1]]=0|1=1)", 0);
        gives("g9(1/0=0|1=1);g8(1=1)", 8);
        gives("g9(1/0=0);g8(2/0=0);g7(1=1)", 7);
    }

    /** 9: what is REFUSED leaves nothing behind for what is asked later, however often it is. */
    private static void refusedOverAndOver() {
        StarDays x = Checks.with(1, 1);
        x.task(1, 0, 0);
        due("9: eleven are refused", Checks.tellLaw(x, 0, "g9(1+2/0=4);".repeat(10) + "g9(1/0=4);g7+1/[1-b](b<9)"), 12);
        for (int i = 0; i < 40; i++) {
            due("10: the twelfth holds", x.gives(0, 0, 0), 8);
        }
        due("23: 8 for 0, and nothing for 1, as it is refused", x.lasts(0, 0, 0, 8), 0);
        due("23: the other way", x.lasts(0, 0, 0, 9), -2);
        due("10: the twelfth holds still", x.gives(0, 0, 0), 8);
    }

    /** 9: an E is 0. */
    private static void refusedAmount() {
        gives("g1/0(1=1)", 0);
        gives("g1%0(1=1)", 0);
        gives("g50+1/0(1=1)", 0);
        gives("g50/n(1=1)", 0);
        gives("g[50/n]+7(1=1)", 0);
        gives("g7-0*[50/n](1=1)", 0);
        gives("g1/0(1=1);g9(1=1)", 0);
        gives("g1/0(1=2);g9(1=1)", 9);
        gives("g1/0(1/0=1);g9(1=1)", 9);
    }

    /** 9: of a C as much is asked, from the left, as matters. */
    private static void askedAsMatters() {
        gives("g9(1=1|1/0=0)", 9);
        gives("g9(1=2|1=1|1/0=0)", 9);
        gives("g9(1=1&1=1|1/0=0)", 9);
        gives("g9(1=2&1/0=0|1=1)", 9);
        gives("g9(1=2&1/0=0&1/0=0|1=1)", 9);
        gives("g9(1=1&1=2&1/0=0|1=1)", 9);
        gives("g9(1=2&1/0=0)", 0);
        gives("g9(!(1=2&1/0=0))", 9);
        gives("g9(!(1=1|1/0=0)|1=1)", 9);
        gives("g9((1=1|1/0=0)&1=1)", 9);
        gives("g9((1=1|1/0=0)&1/0=0|1=1)", 0);
        gives("g9((1=2&1/0=0|1=1)&!(1=2&1/0=0))", 9);
        gives("g9(1=2&(1/0=0|1=1)|!1=2|1/0=0)", 9);
        gives("g8(1=1);g9(1/0=0)", 8);
    }

    /** 10: NONE: no such ones, the TASK does not use it. */
    private static void noSuchGives() {
        for (int no : new int[] {MIN, -1, 2, 5, 6, MAX}) {
            refused("10: gives(" + no + ", 0, 0)", x -> x.gives(no, 0, 0));
            refused("10: gives(0, 0, " + no + ")", x -> x.gives(0, 0, no));
        }
        for (int no : new int[] {MIN, -1, 3, 7, 8, MAX}) {
            refused("10: gives(0, " + no + ", 0)", x -> x.gives(0, no, 0));
        }
        refused("10: gives(0, 1, 1), it is not used", x -> x.gives(0, 1, 1));
        refused("10: gives(0, 2, 0), it is not used", x -> x.gives(0, 2, 0));
        due("10: gives(1, 2, 1), the last ones", Worlds.small().gives(1, 2, 1), 100);
        due("10: gives(5, 7, 5), the last ones", Worlds.full().gives(5, 7, 5), 100);
    }

    /** 10: SHARE hundredths of what its LAW says, rounded down. */
    private static void roundedDown() {
        int[][] rows = {{0, 100, 0}, {1, 99, 0}, {1, 100, 1}, {50, 1, 0}, {50, 3, 1}, {99, 99, 98}, {99, 1, 0},
            {33, 10, 3}, {100, 100, 100}, {100, 1, 1}, {100, 0, 0}};
        for (int[] row : rows) {
            StarDays x = Checks.with(1, 1);
            x.task(1, 0, 0);
            x.share(0, 0, row[0]);
            Checks.tellLaw(x, 0, "g" + row[1] + "(1=1)");
            due("10: share " + row[0] + " of " + row[1], x.gives(0, 0, 0), row[2]);
        }
        // The law is cut to 100 ahead of the share.
        StarDays x = Checks.with(1, 1);
        x.task(1, 0, 0);
        x.share(0, 0, 50);
        Checks.tellLaw(x, 0, "g300(1=1)");
        due("10: share 50 of 300", x.gives(0, 0, 0), 50);
    }

    /** Whether a letter stands for just so much. */
    private static void letter(StarDays x, String letter, int h, int t, int much) {
        Checks.tellLaw(x, 0, "g9(" + letter + "=" + much + ")");
        due("10: " + letter + " of head " + h + ", task " + t, x.gives(h, t, 0), 9);
    }

    /** 10: d 300: never; b 0: never, or none. */
    private static void lettersOfNever() {
        StarDays x = Checks.with(1, 2);
        x.task(1, 0, 0);
        x.task(1, 0, 0);
        x.now(299);
        for (int h = 0; h < 2; h++) {
            letter(x, "n", h, 0, 0);
            letter(x, "d", h, 0, 300);
            letter(x, "b", h, 0, 0);
            letter(x, "a", h, 0, 0);
        }
        x.told(0, 1, 0, 0);
        letter(x, "n", 0, 0, 0);
        letter(x, "d", 0, 0, 300);
        letter(x, "b", 0, 0, 0);
        letter(x, "a", 0, 0, 1);
        letter(x, "d", 0, 1, 299);
        letter(x, "b", 0, 1, 0);
        letter(x, "a", 1, 1, 0);
        letter(x, "d", 1, 1, 300);
    }

    /** 10: d how many DAYS ago, from that on which a told one was done; 0 on the same DAY. */
    private static void lettersOfDays() {
        StarDays x = Checks.with(1, 1);
        x.task(1, 0, 0);
        x.does(0, 0);
        letter(x, "d", 0, 0, 0);
        x.now(1);
        letter(x, "d", 0, 0, 1);
        x.now(298);
        letter(x, "d", 0, 0, 298);
        x.told(0, 0, 3, 1);
        letter(x, "d", 0, 0, 295);
        letter(x, "n", 0, 0, 2);
        x.now(299);
        letter(x, "d", 0, 0, 296);
        x.does(0, 0);
        letter(x, "d", 0, 0, 0);
        letter(x, "n", 0, 0, 3);
    }

    /** 10: n, a and b of 200 ANSWERS. */
    private static void lettersOfTheMost() {
        StarDays x = Checks.with(1, 2);
        x.task(1, 0, 0);
        x.task(1, 0, 0);
        x.told(0, 0, 0, 1);
        for (int i = 1; i < 200; i++) {
            x.told(0, 1, 0, 1);
        }
        letter(x, "n", 0, 0, 1);
        letter(x, "b", 0, 0, 199);
        letter(x, "a", 0, 0, 200);
        letter(x, "n", 0, 1, 199);
        letter(x, "b", 0, 1, 0);
        letter(x, "n", 1, 1, 0);
        letter(x, "a", 1, 0, 0);
    }

    /** 10: h HARD 0 to 100, u 1 to 9, s 0 to 100 (nothing is left of what 0 has), t 0 to 7, y 0 to 299. */
    private static void lettersOfOthers() {
        StarDays x = Checks.with(1, 6);
        for (int t = 0; t < 8; t++) {
            x.task(t + 2, 0, t * 14);
        }
        x.share(5, 0, 99);
        letter(x, "t", 0, 0, 0);
        letter(x, "t", 0, 7, 7);
        letter(x, "u", 0, 0, 2);
        letter(x, "u", 0, 7, 9);
        letter(x, "h", 0, 0, 0);
        letter(x, "h", 0, 7, 98);
        letter(x, "s", 0, 0, 100);
        letter(x, "y", 0, 0, 0);
        x.now(299);
        letter(x, "y", 0, 0, 299);
        Checks.tellLaw(x, 0, "g100(s=99)");
        due("10: s of head 5", x.gives(5, 0, 0), 99);
        due("10: s of head 0", x.gives(0, 0, 0), 0);
    }
}
