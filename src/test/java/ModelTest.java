/** Long runs of calls by lot, each answer compared with the model's. The lots are drawn from the run's number alone. */
public final class ModelTest {
    private static final int RUNS = 1500;
    private static final int CALLS = 512;
    private static final Checks CHECKS = new Checks("ModelTest");

    private final int run;
    private final StarDays real = new StarDays();
    private final Model model = new Model();
    private long state;
    private int heads;
    private int stores;
    private int tasks;
    private int answers;

    private ModelTest(int run) {
        this.run = run;
        state = 88172645463325252L + 977L * run;
    }

    public static void main(String[] args) {
        for (int run = 0; run < RUNS; run++) {
            new ModelTest(run).play();
        }
        CHECKS.end();
    }

    private int lot(int below) {
        state ^= state << 13;
        state ^= state >>> 7;
        state ^= state << 17;
        return (int) Math.floorMod(state >>> 11, (long) below);
    }

    /** Mostly a number from 0 on below so much, at times one that is not. */
    private int number(int below) {
        int kind = lot(60);
        if (kind == 0) {
            return -1;
        }
        if (kind == 1) {
            return below;
        }
        if (kind == 2) {
            int[] far = {Integer.MIN_VALUE, Integer.MAX_VALUE, -2, below + 1, 1 << 28, -100};
            return far[lot(far.length)];
        }
        return lot(Math.max(1, below));
    }

    private void due(String call, long got, long want) {
        CHECKS.due("run " + run + ": " + call, got, want);
    }

    private void due(String call, boolean got, boolean want) {
        CHECKS.due("run " + run + ": " + call, got, want);
    }

    private void play() {
        int headsWanted = run % 6 == 3 ? 3 + lot(4) : 1 + lot(6);
        int storesWanted = 1 + lot(6);
        for (int i = 0; i < headsWanted; i++) {
            due("head()", real.head(), model.head());
        }
        for (int i = 0; i < storesWanted; i++) {
            due("store()", real.store(), model.store());
        }
        heads = headsWanted;
        stores = storesWanted;
        for (int i = lot(5); i >= 0; i--) {
            task();
        }
        boolean telling = run % 2 == 0;
        boolean curving = run % 6 == 1;
        if (run % 6 == 3) {
            tellEachOnce();
        }
        for (int i = headsWanted + storesWanted + 5; i < CALLS; i++) {
            if (telling && i < 260) {
                tell();
            } else if (curving && i < 200) {
                call(36 + lot(3));
            } else {
                call(lot(40));
            }
        }
    }

    private int h() {
        return number(heads);
    }

    private int t() {
        return number(tasks);
    }

    private int k() {
        return number(stores);
    }

    /** Tells an answer as a head that lacks some of the stores would give it, so that heads differ. */
    private void tell() {
        int h = lot(heads);
        int t = lot(Math.max(1, tasks));
        int day = model.count(0);
        int right = (h * 7 + t * 5 + run) % 3 == 0 ? lot(5) / 4 : 1 - lot(5) / 4;
        due("told " + h + " " + t, real.told(h, t, day, right), model.told(h, t, day, right));
        answers = model.count(4);
    }

    /** One answer or none to each task from each head, mostly right, so that many stores are wanted. */
    private void tellEachOnce() {
        for (int i = lot(5); i >= 0; i--) {
            task();
        }
        for (int h = 0; h < heads; h++) {
            for (int t = 0; t < tasks; t++) {
                int right = lot(3) == 0 ? 0 : 1;
                if (lot(8) != 0) {
                    due("told " + h + " " + t, real.told(h, t, 0, right), model.told(h, t, 0, right));
                }
            }
        }
        for (int place = -2; place <= 9; place++) {
            due("fewest " + place, real.fewest(place), model.fewest(place));
        }
    }

    private void task() {
        int uses = 0;
        for (int i = 0; i < stores; i++) {
            uses = uses * 10 + (lot(2) == 0 ? lot(10) : 0);
        }
        if (lot(20) == 0) {
            uses = number(2000000);
        }
        int mode = number(2);
        int hard = number(101);
        due("task " + uses + " " + mode + " " + hard, real.task(uses, mode, hard), model.task(uses, mode, hard));
        tasks = model.count(3);
    }

    private void feed(int... bytes) {
        for (int from = 0; from < bytes.length; from += 20) {
            int[] five = new int[5];
            for (int i = 0; i < 20; i++) {
                int one = from + i < bytes.length ? bytes[from + i] : lot(256);
                five[i / 4] = five[i / 4] << 8 | one & 255;
            }
            due("feed", real.feed(five[0], five[1], five[2], five[3], five[4]), model.feed(five));
        }
    }

    /** Makes room on the tape by a law that is a fault, or by none. */
    private void emptyTape() {
        int many = Math.min(160, model.count(6));
        due("law to empty", real.law(0, many), model.law(0, many));
    }

    private void law() {
        if (lot(4) != 0) {
            emptyTape();
        }
        String text = LawTexts.text(this::lot);
        int[] bytes = new int[text.length()];
        for (int i = 0; i < bytes.length; i++) {
            bytes[i] = text.charAt(i);
        }
        feed(bytes);
        int k = k();
        int n = lot(20) == 0 ? number(200) : text.length();
        due("law " + k + " " + n + " " + text, real.law(k, n), model.law(k, n));
        due("count of clauses", real.count(10 + k), model.count(10 + k));
    }

    private void next() {
        if (lot(4) != 0) {
            emptyTape();
        }
        int[] guesses = new int[6];
        for (int i = 0; i < 6; i++) {
            guesses[i] = lot(30) == 0 ? lot(256) : lot(1 << stores);
        }
        feed(guesses);
        int n = lot(10) == 0 ? number(9) : 2 + lot(5);
        int what = number(2);
        due("next " + n + " " + what, real.next(n, what), model.next(n, what));
    }

    private void check() {
        if (lot(4) != 0) {
            emptyTape();
        }
        int n = lot(Math.min(12, answers) + 1);
        int[] bytes = new int[16 * n];
        for (int i = 0; i < 4 * n; i++) {
            int number = model.answer(i / 4, i % 4);
            if (lot(60) == 0) {
                number = lot(4) - 1;
            }
            for (int b = 0; b < 4; b++) {
                bytes[4 * i + b] = number >>> 24 - 8 * b & 255;
            }
        }
        feed(bytes);
        if (lot(10) == 0) {
            n = number(14);
        }
        due("check " + n, real.check(n), model.check(n));
    }

    private void call(int which) {
        if (which < 12) {
            callAnswers(which);
        } else if (which < 26) {
            callState(which);
        } else {
            callTelling(which);
        }
    }

    private void callAnswers(int which) {
        int h = h();
        int t = t();
        int what = number(5);
        if (which < 6) {
            due("does " + h + " " + t, real.does(h, t), model.does(h, t));
        } else if (which < 8) {
            int day = number(model.count(0) + 1);
            int right = number(2);
            due("told " + h + " " + t + " " + day, real.told(h, t, day, right), model.told(h, t, day, right));
        } else if (which < 10) {
            int i = number(answers);
            due("answer " + i + " " + what, real.answer(i, what), model.answer(i, what));
        } else {
            due("can " + h + " " + t + " " + what, real.can(h, t, what), model.can(h, t, what));
        }
        answers = model.count(4);
        due("X", real.count(7), model.count(7));
    }

    private void callState(int which) {
        int h = h();
        int k = k();
        switch (which) {
            case 12, 13 -> law();
            case 14 -> next();
            case 15 -> check();
            case 16 -> {
                int share = number(101);
                due("share", real.share(h, k, share), model.share(h, k, share));
            }
            case 17, 18 -> {
                int day = lot(8) == 0 ? number(300) : model.count(0) + lot(4);
                day = day > model.count(0) + 20 && lot(4) != 0 ? model.count(0) : day;
                due("now " + day, real.now(day), model.now(day));
            }
            case 19 -> {
                int seed = number(65536);
                due("seed " + seed, real.seed(seed), model.seed(seed));
            }
            case 20 -> {
                due("store", real.store(), model.store());
                stores = model.count(1);
            }
            case 21 -> {
                due("head", real.head(), model.head());
                heads = model.count(2);
            }
            case 22 -> task();
            case 23 -> {
                int day = number(model.count(0) + 1);
                due("asks " + h + " " + day, real.asks(h, day), model.asks(h, day));
            }
            case 24 -> {
                int year = number(100);
                int ten = number(11);
                int knew = year < 50 ? 1 - lot(4) / 3 : lot(4) / 3;
                due("old", real.old(year, ten, knew), model.old(year, ten, knew));
            }
            default -> {
                int what = number(18);
                due("count " + what, real.count(what), model.count(what));
            }
        }
    }

    private void callTelling(int which) {
        int h = h();
        int t = t();
        int k = k();
        int what = number(3);
        switch (which) {
            case 26, 27 -> due("gives " + h + " " + t + " " + k, real.gives(h, t, k), model.gives(h, t, k));
            case 28, 29 -> {
                int other = h();
                due("worse " + h + " " + other + " " + t, real.worse(h, other, t, what % 2), model.worse(h, other, t, what % 2));
                due("worse by " + what, real.worse(h, other, t, what), model.worse(h, other, t, what));
            }
            case 30 -> {
                int other = h();
                int b = t();
                int by = lot(3) == 0 ? number(1001) : 20 + lot(300);
                due("parted " + by, real.parted(h, other, t, b, by), model.parted(h, other, t, b, by));
            }
            case 31 -> {
                // The model tries all rows of six heads' sets, which takes its time.
                int place = number(9) - 1;
                if (heads < 5 || lot(8) == 0) {
                    due("fewest " + place, real.fewest(place), model.fewest(place));
                }
            }
            case 32 -> due("lacks " + h, real.lacks(h, what), model.lacks(h, what));
            case 33 -> due("purest " + k, real.purest(k), model.purest(k));
            case 34 -> due("back " + what, real.back(what), model.back(what));
            case 35 -> {
                int much = lot(2) == 0 ? 1 : number(101);
                due("lasts " + h + " " + t + " " + k + " " + much, real.lasts(h, t, k, much), model.lasts(h, t, k, much));
            }
            case 36, 37 -> {
                int n = lot(4) == 0 ? number(1001) : lot(9);
                due("mistakes", real.mistakes(h, t, n), model.mistakes(h, t, n));
            }
            case 38 -> due("curve " + what, real.curve(h, t, what), model.curve(h, t, what));
            default -> {
                due("again", real.again(), model.again());
                due("unasked", real.unasked(h), model.unasked(h));
            }
        }
    }
}
