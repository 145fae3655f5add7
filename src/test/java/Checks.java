/** Compares answers with those that are due, and puts texts and bytes on the tape of an object. */
final class Checks {
    private final String name;
    private int made;
    private int wrong;

    Checks(String name) {
        this.name = name;
    }

    void due(String call, long got, long want) {
        made++;
        if (got != want) {
            wrong++;
            System.out.println(name + ": " + call + " answered " + got + ", due is " + want);
        }
    }

    void due(String call, boolean got, boolean want) {
        due(call, got ? 1 : 0, want ? 1 : 0);
    }

    /** Ends the machine with 1 if an answer was not the one that was due. */
    void end() {
        System.out.println(name + ": " + made + " answers, " + wrong + " of them wrong");
        if (wrong != 0 || made == 0) {
            System.exit(1);
        }
    }

    /** Feeds the bytes, with as many zeros behind them as fill the last twenty. */
    static void feedBytes(StarDays x, int... bytes) {
        for (int from = 0; from < bytes.length; from += 20) {
            int[] numbers = new int[5];
            for (int i = 0; i < 20; i++) {
                int next = from + i < bytes.length ? bytes[from + i] : 0;
                numbers[i / 4] = numbers[i / 4] << 8 | next & 255;
            }
            x.feed(numbers[0], numbers[1], numbers[2], numbers[3], numbers[4]);
        }
    }

    static void feedText(StarDays x, String text) {
        int[] bytes = new int[text.length()];
        for (int i = 0; i < bytes.length; i++) {
            bytes[i] = text.charAt(i);
        }
        feedBytes(x, bytes);
    }

    static void feedNumbers(StarDays x, int... numbers) {
        for (int from = 0; from < numbers.length; from += 5) {
            int[] five = new int[5];
            System.arraycopy(numbers, from, five, 0, Math.min(5, numbers.length - from));
            x.feed(five[0], five[1], five[2], five[3], five[4]);
        }
    }

    /** Tells a law by an empty tape. */
    static int tellLaw(StarDays x, int k, String text) {
        feedText(x, text);
        return x.law(k, text.length());
    }

    /** An object with so many stores and heads. */
    static StarDays with(int stores, int heads) {
        StarDays x = new StarDays();
        for (int i = 0; i < stores; i++) {
            x.store();
        }
        for (int i = 0; i < heads; i++) {
            x.head();
        }
        return x;
    }

    /** Tells so many answers, of which the first ones are right. */
    static void tellAnswers(StarDays x, int h, int t, int right, int all) {
        for (int i = 0; i < all; i++) {
            x.told(h, t, x.count(0), i < right ? 1 : 0);
        }
    }
}
