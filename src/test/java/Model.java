import java.math.BigInteger;
import java.nio.ByteBuffer;
import java.util.ArrayList;
import java.util.Arrays;
import java.util.HashMap;
import java.util.HashSet;
import java.util.List;
import java.util.Map;
import java.util.Set;

/** The document once more, slowly and in another way: everything is reckoned anew from what was told. */
final class Model {
    private static final int NONE = -1;

    private record Task(int[] uses, int mode, int hard) { }

    private record Answer(int head, int task, int day, int right, int had) { }

    private record Old(int year, int ten, int knew) { }

    private final List<LawModel> laws = new ArrayList<>();
    private final List<int[]> shares = new ArrayList<>();
    private final List<Task> tasks = new ArrayList<>();
    private final List<Answer> answers = new ArrayList<>();
    private final List<Old> olds = new ArrayList<>();
    private final List<Integer> tape = new ArrayList<>();
    private final Map<String, List<Integer>> curves = new HashMap<>();
    private final Set<String> asked = new HashSet<>();
    private int now;
    private long seed = 1;
    private long x = 1;

    int store() {
        if (laws.size() == 6) {
            return NONE;
        }
        laws.add(null);
        return laws.size() - 1;
    }

    int head() {
        if (shares.size() == 6) {
            return NONE;
        }
        int[] full = new int[6];
        Arrays.fill(full, 100);
        shares.add(full);
        return shares.size() - 1;
    }

    private boolean no(int number, int size) {
        return number < 0 || number >= size;
    }

    private boolean noHead(int h) {
        return no(h, shares.size());
    }

    private boolean noStore(int k) {
        return no(k, laws.size());
    }

    private boolean noTask(int t) {
        return no(t, tasks.size());
    }

    boolean share(int h, int k, int share) {
        if (noHead(h) || noStore(k) || no(share, 101)) {
            return false;
        }
        shares.get(h)[k] = share;
        return true;
    }

    int task(int uses, int mode, int hard) {
        if (uses < 1 || no(mode, 2) || no(hard, 101) || tasks.size() == 8) {
            return NONE;
        }
        String digits = new StringBuilder(Integer.toString(uses)).reverse().toString();
        if (digits.length() > laws.size()) {
            return NONE;
        }
        int[] each = new int[6];
        for (int k = 0; k < digits.length(); k++) {
            each[k] = digits.charAt(k) - '0';
        }
        tasks.add(new Task(each, mode, hard));
        return tasks.size() - 1;
    }

    boolean now(int day) {
        if (day < now || day > 299) {
            return false;
        }
        now = day;
        return true;
    }

    boolean seed(int number) {
        if (no(number, 65536)) {
            return false;
        }
        seed = number;
        x = number;
        return true;
    }

    int feed(int... five) {
        if (tape.size() + 20 > 200) {
            return NONE;
        }
        ByteBuffer bytes = ByteBuffer.allocate(20);
        for (int number : five) {
            bytes.putInt(number);
        }
        for (byte one : bytes.array()) {
            tape.add(Byte.toUnsignedInt(one));
        }
        return tape.size();
    }

    int law(int k, int n) {
        if (noStore(k) || n < 1 || n > 160 || n > tape.size()) {
            return NONE;
        }
        StringBuilder text = new StringBuilder();
        for (int one : tape.subList(0, n)) {
            text.append((char) one);
        }
        tape.clear();
        try {
            LawModel law = LawModel.of(text.toString());
            laws.set(k, law);
            return law.clauses();
        } catch (LawModel.Fault fault) {
            return fault.told;
        }
    }

    private int gives(int h, int t, int k, int n, int d, int b, int a, int day) {
        Task task = tasks.get(t);
        int share = shares.get(h)[k];
        LawModel law = laws.get(k);
        if (law == null) {
            return share;
        }
        Map<Character, Integer> letters = new HashMap<>();
        letters.put('n', n);
        letters.put('d', d);
        letters.put('b', b);
        letters.put('a', a);
        letters.put('h', task.hard);
        letters.put('u', task.uses[k]);
        letters.put('s', share);
        letters.put('t', t);
        letters.put('y', day);
        return share * law.gives(letters) / 100;
    }

    private int givesBehind(List<Answer> past, int h, int t, int k, int day) {
        int n = 0;
        int d = 300;
        int b = 0;
        int a = 0;
        for (Answer answer : past) {
            if (answer.head != h) {
                continue;
            }
            a++;
            if (answer.task == t) {
                n++;
                d = day - answer.day;
                b = 0;
            } else if (n > 0) {
                b++;
            }
        }
        return gives(h, t, k, n, d, b, a, day);
    }

    private int had(List<Answer> past, int h, int t, int day) {
        List<Integer> all = new ArrayList<>();
        for (int k = 0; k < laws.size(); k++) {
            if (tasks.get(t).uses[k] > 0) {
                all.add(givesBehind(past, h, t, k, day));
            }
        }
        all.sort(null);
        return tasks.get(t).mode == 0 ? all.get(0) : all.get(all.size() - 1);
    }

    private int right(long draw, int hard, int had) {
        int line = had >= hard ? 100 : 100 - (hard - had);
        return draw % 100 < line ? 1 : 0;
    }

    int gives(int h, int t, int k) {
        if (noHead(h) || noTask(t) || noStore(k) || tasks.get(t).uses[k] == 0) {
            return NONE;
        }
        return givesBehind(answers, h, t, k, now);
    }

    int does(int h, int t) {
        if (noHead(h) || noTask(t) || answers.size() == 200) {
            return NONE;
        }
        x = (25173 * x + 13849) % 65536;
        int had = had(answers, h, t, now);
        int right = right(x, tasks.get(t).hard, had);
        answers.add(new Answer(h, t, now, right, had));
        return right;
    }

    int told(int h, int t, int day, int right) {
        if (noHead(h) || noTask(t) || no(right, 2) || answers.size() == 200 || day < 0 || day > now) {
            return NONE;
        }
        for (Answer answer : answers) {
            if (day < answer.day) {
                return NONE;
            }
        }
        answers.add(new Answer(h, t, day, right, NONE));
        return answers.size() - 1;
    }

    int answer(int i, int what) {
        if (no(i, answers.size()) || no(what, 5)) {
            return NONE;
        }
        Answer a = answers.get(i);
        return List.of(a.head, a.task, a.day, a.right, a.had).get(what);
    }

    private int all(int h, int t) {
        return (int) answers.stream().filter(a -> a.head == h && a.task == t).count();
    }

    private int rights(int h, int t) {
        return (int) answers.stream().filter(a -> a.head == h && a.task == t && a.right == 1).count();
    }

    int can(int h, int t, int what) {
        if (noHead(h) || noTask(t) || no(what, 3)) {
            return NONE;
        }
        int all = all(h, t);
        int rights = rights(h, t);
        int wrongs = all - rights;
        int can = rights > wrongs ? 1 : wrongs > rights ? 0 : 2;
        return List.of(all, rights, can).get(what);
    }

    private static BigInteger factorial(int n) {
        BigInteger product = BigInteger.ONE;
        for (int i = 2; i <= n; i++) {
            product = product.multiply(BigInteger.valueOf(i));
        }
        return product;
    }

    private static BigInteger sets(int n, int k) {
        if (k < 0 || k > n) {
            return BigInteger.ZERO;
        }
        return factorial(n).divide(factorial(k).multiply(factorial(n - k)));
    }

    /** Above and below the line, or null where none is told. */
    private BigInteger[] odds(int h, int other, int t) {
        int a = all(h, t);
        int b = all(other, t);
        if (a == 0 || b == 0 || a > 25 || b > 25) {
            return null;
        }
        int rights = rights(h, t) + rights(other, t);
        BigInteger few = BigInteger.ZERO;
        for (int i = 0; i <= rights(h, t); i++) {
            few = few.add(sets(a, i).multiply(sets(b, rights - i)));
        }
        BigInteger every = sets(a + b, rights);
        BigInteger divisor = few.gcd(every);
        return new BigInteger[] {few.divide(divisor), every.divide(divisor)};
    }

    long worse(int h, int other, int t, int what) {
        if (noHead(h) || noHead(other) || noTask(t) || no(what, 2) || h == other) {
            return NONE;
        }
        BigInteger[] odds = odds(h, other, t);
        return odds == null ? -2 : odds[what].longValueExact();
    }

    private boolean isWorse(int h, int other, int t, int thousandths) {
        BigInteger[] odds = odds(h, other, t);
        BigInteger thousand = BigInteger.valueOf(1000);
        return odds != null
            && odds[0].multiply(thousand).compareTo(odds[1].multiply(BigInteger.valueOf(thousandths))) <= 0;
    }

    int parted(int h, int other, int a, int b, int thousandths) {
        if (noHead(h) || noHead(other) || noTask(a) || noTask(b) || h == other || a == b) {
            return NONE;
        }
        if (thousandths < 1 || thousandths > 1000) {
            return NONE;
        }
        boolean parted = isWorse(h, other, a, thousandths) && !isWorse(h, other, b, thousandths);
        boolean back = isWorse(other, h, b, thousandths) && !isWorse(other, h, a, thousandths);
        return parted ? back ? 2 : 1 : 0;
    }

    private int undone(int set) {
        int all = 0;
        for (int t = 0; t < tasks.size(); t++) {
            boolean done = false;
            for (int h = 0; h < shares.size(); h++) {
                done |= (set >> h & 1) == 1 && can(h, t, 2) == 1;
            }
            all |= done ? 0 : 1 << t;
        }
        return all;
    }

    /** Tries all rows of all sizes, each in its order. */
    private List<Integer> fewestRow() {
        int sets = 1 << shares.size();
        long wanted = 0;
        long[] fits = new long[sets];
        for (int h = 0; h < shares.size(); h++) {
            for (int t = 0; t < tasks.size(); t++) {
                if (can(h, t, 2) == 0) {
                    wanted |= 1L << 8 * h + t;
                }
            }
        }
        for (int set = 0; set < sets; set++) {
            int tasksOfIt = undone(set);
            for (int h = 0; h < 6; h++) {
                fits[set] |= (set >> h & 1) == 1 ? (long) tasksOfIt << 8 * h : 0;
            }
        }
        for (int size = 0; size <= 4; size++) {
            List<Integer> row = rowOf(size, 1, wanted, fits);
            if (row != null) {
                return row;
            }
        }
        return null;
    }

    private List<Integer> rowOf(int size, int from, long wanted, long[] fits) {
        if (size == 0) {
            return wanted == 0 ? new ArrayList<>() : null;
        }
        for (int set = from; set < fits.length; set++) {
            List<Integer> rest = rowOf(size - 1, set + 1, wanted & ~fits[set], fits);
            if (rest != null) {
                rest.add(0, set);
                return rest;
            }
        }
        return null;
    }

    int fewest(int what) {
        if (what < -1) {
            return NONE;
        }
        List<Integer> row = fewestRow();
        if (row == null) {
            return -2;
        }
        if (what == -1) {
            return row.size();
        }
        if (what / 2 >= row.size()) {
            return NONE;
        }
        return what % 2 == 0 ? row.get(what / 2) : undone(row.get(what / 2));
    }

    private boolean rightWithout(int t, int lacked) {
        Task task = tasks.get(t);
        boolean all = true;
        boolean any = false;
        for (int k = 0; k < 6; k++) {
            if (task.uses[k] > 0) {
                boolean has = (lacked >> k & 1) == 0;
                all &= has;
                any |= has;
            }
        }
        return task.mode == 0 ? all : any;
    }

    int lacks(int h, int what) {
        if (noHead(h) || no(what, 2)) {
            return NONE;
        }
        List<int[]> all = new ArrayList<>();
        for (int set = 0; set < 1 << laws.size(); set++) {
            int otherwise = 0;
            for (Answer answer : answers) {
                if (answer.head == h && rightWithout(answer.task, set) != (answer.right == 1)) {
                    otherwise++;
                }
            }
            all.add(new int[] {otherwise, Integer.bitCount(set), set});
        }
        all.sort(Arrays::compare);
        return what == 0 ? all.get(0)[2] : all.get(0)[0];
    }

    int next(int n, int what) {
        if (n < 2 || n > 6 || no(what, 2) || tape.size() < n) {
            return NONE;
        }
        List<Integer> guesses = new ArrayList<>(tape.subList(0, n));
        tape.clear();
        for (int guess : guesses) {
            if (guess >> laws.size() != 0) {
                return NONE;
            }
        }
        int best = -2;
        int most = -2;
        for (int t = 0; t < tasks.size(); t++) {
            int pairs = 0;
            for (int i = 0; i < n; i++) {
                for (int j = 0; j < i; j++) {
                    pairs += rightWithout(t, guesses.get(i)) != rightWithout(t, guesses.get(j)) ? 1 : 0;
                }
            }
            if (pairs > most) {
                best = t;
                most = pairs;
            }
        }
        return what == 0 ? best : most;
    }

    int purest(int k) {
        if (noStore(k)) {
            return NONE;
        }
        int best = NONE;
        for (int t = 0; t < tasks.size(); t++) {
            if (tasks.get(t).uses[k] > 0 && (best == NONE || isPurer(t, best, k))) {
                best = t;
            }
        }
        return best;
    }

    private boolean isPurer(int t, int than, int k) {
        int all = Arrays.stream(tasks.get(t).uses).sum();
        int otherAll = Arrays.stream(tasks.get(than).uses).sum();
        int others = all - tasks.get(t).uses[k];
        int otherOthers = otherAll - tasks.get(than).uses[k];
        return others * otherAll < otherOthers * all;
    }

    int old(int year, int ten, int knew) {
        if (no(year, 100) || no(ten, 11) || no(knew, 2) || olds.size() == 40) {
            return NONE;
        }
        olds.add(new Old(year, ten, knew));
        return olds.size();
    }

    int back(int what) {
        if (no(what, 3)) {
            return NONE;
        }
        List<int[]> all = new ArrayList<>();
        for (int from = 0; from <= 100; from++) {
            int year = from;
            long otherwise = olds.stream().filter(o -> o.ten > 5 && o.year < year != (o.knew == 1)).count();
            all.add(new int[] {(int) otherwise, year});
        }
        all.sort(Arrays::compare);
        int least = all.get(0)[0];
        if (what == 2) {
            return least;
        }
        int last = all.stream().filter(a -> a[0] == least).mapToInt(a -> a[1]).max().getAsInt();
        return what == 0 ? all.get(0)[1] : last;
    }

    int lasts(int h, int t, int k, int much) {
        if (noHead(h) || noTask(t) || noStore(k) || much < 1 || much > 100 || tasks.get(t).uses[k] == 0) {
            return NONE;
        }
        int b = 0;
        while (b <= 100 && gives(h, t, k, 1, 0, b, b + 1, now) >= much) {
            b++;
        }
        return b == 0 ? -2 : b - 1;
    }

    private List<Integer> curveOf(int h, int t) {
        return curves.computeIfAbsent(h + " " + t, key -> new ArrayList<>());
    }

    int mistakes(int h, int t, int n) {
        if (noHead(h) || noTask(t) || no(n, 1001) || curveOf(h, t).size() == 12) {
            return NONE;
        }
        curveOf(h, t).add(n);
        return curveOf(h, t).size();
    }

    int curve(int h, int t, int what) {
        if (noHead(h) || noTask(t) || no(what, 3)) {
            return NONE;
        }
        List<Integer> own = curveOf(h, t);
        int better = 0;
        for (int from = 0; from < own.size(); from++) {
            int to = from + 1;
            while (to < own.size() && own.get(to) <= own.get(to - 1)) {
                to++;
            }
            better = Math.max(better, to - from);
        }
        int like = 0;
        for (int i = 0; i < own.size(); i++) {
            List<Integer> others = new ArrayList<>();
            for (int other = 0; other < shares.size(); other++) {
                if (other != h && curveOf(other, t).size() > i) {
                    others.add(curveOf(other, t).get(i));
                }
            }
            others.sort(null);
            if (!others.isEmpty() && others.get(0) <= own.get(i) && own.get(i) <= others.get(others.size() - 1)) {
                like++;
            }
        }
        return List.of(better, like, own.size()).get(what);
    }

    boolean asks(int h, int day) {
        return !noHead(h) && day >= 0 && day <= now && asked.add(h + " " + day);
    }

    int unasked(int h) {
        if (noHead(h)) {
            return NONE;
        }
        Set<Integer> days = new HashSet<>();
        for (Answer answer : answers) {
            if (answer.head == h && !asked.contains(h + " " + answer.day)) {
                days.add(answer.day);
            }
        }
        return days.size();
    }

    int again() {
        long draw = seed;
        int right = 0;
        for (int i = 0; i < answers.size(); i++) {
            Answer a = answers.get(i);
            if (a.had != NONE) {
                draw = (25173 * draw + 13849) % 65536;
                right += right(draw, tasks.get(a.task).hard, had(answers.subList(0, i), a.head, a.task, a.day));
            }
        }
        return right;
    }

    int check(int n) {
        if (n < 0 || 16L * n > tape.size()) {
            return -2;
        }
        List<Integer> bytes = new ArrayList<>(tape.subList(0, 16 * n));
        tape.clear();
        for (int i = 0; i < 4 * n; i++) {
            BigInteger number = BigInteger.ZERO;
            for (int one : bytes.subList(4 * i, 4 * i + 4)) {
                number = number.shiftLeft(8).add(BigInteger.valueOf(one));
            }
            if (i / 4 >= answers.size() || number.intValue() != answer(i / 4, i % 4)) {
                return i;
            }
        }
        return n == answers.size() ? NONE : 4 * n;
    }

    int count(int what) {
        if (what >= 10 && what - 10 < laws.size()) {
            return laws.get(what - 10) == null ? 0 : laws.get(what - 10).clauses();
        }
        if (no(what, 8)) {
            return NONE;
        }
        return List.of(now, laws.size(), shares.size(), tasks.size(), answers.size(), olds.size(), tape.size(), (int) x)
            .get(what);
    }
}
