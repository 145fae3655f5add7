import java.util.Arrays;

/** Heads with stores, the tasks that use them, the answers of days, and what all of it tells. */
public final class StarDays {
    public static final int NONE = -1;

    private static final int UNTOLD = -2;
    private static final int MOST_STORES = 6;
    private static final int MOST_HEADS = 6;
    private static final int MOST_TASKS = 8;
    private static final int MOST_DAYS = 300;
    private static final int MOST_ANSWERS = 200;
    private static final int MOST_ODDS_ANSWERS = 25;
    private static final int MOST_TAPE = 200;
    private static final int MOST_TEXT = 160;
    private static final int MOST_CLAUSES = 12;
    private static final int MOST_OPEN = 6;
    private static final int MOST_FITTING = 4;
    private static final int MOST_OLD = 40;
    private static final int MOST_CURVE = 12;
    private static final int MOST_MISTAKES = 1000;
    private static final int FULL = 100;
    private static final int NOT_KNOWN = 2;

    private static final String LETTERS = "ndbahusty";
    private static final int NUMBER = '0';
    private static final int LETTER = 'a';

    private int today;
    private int storeCount;
    private int headCount;
    private int firstX = 1;
    private int x = 1;
    private final Tape tape = new Tape();
    private final TaskList tasks = new TaskList();
    private final AnswerBook book = new AnswerBook();
    private final Past replayed = new Past();
    private final Doing doing = new Doing();
    private final LawReader reader = new LawReader();
    private final Law[] laws = new Law[MOST_STORES];
    private Law spareLaw = new Law();
    private final int[][] shares = new int[MOST_HEADS][MOST_STORES];
    private final Odds odds = new Odds();
    private final Cover cover = new Cover();
    private final OldThings oldThings = new OldThings();
    private final Curves curves = new Curves();
    private final boolean[] asked = new boolean[MOST_HEADS * MOST_DAYS];

    public StarDays() {
        for (int k = 0; k < MOST_STORES; k++) {
            laws[k] = new Law();
        }
        for (int h = 0; h < MOST_HEADS; h++) {
            Arrays.fill(shares[h], FULL);
        }
    }

    public int store() {
        if (storeCount >= MOST_STORES) {
            return NONE;
        }
        storeCount++;
        return storeCount - 1;
    }

    public int head() {
        if (headCount >= MOST_HEADS) {
            return NONE;
        }
        headCount++;
        return headCount - 1;
    }

    public boolean share(int h, int k, int share) {
        if (!isHead(h) || !isStore(k) || !isWithin(share, 0, FULL)) {
            return false;
        }
        shares[h][k] = share;
        return true;
    }

    public int task(int uses, int mode, int hard) {
        if (!isWithin(mode, 0, 1) || !isWithin(hard, 0, FULL)) {
            return NONE;
        }
        return tasks.add(uses, mode, hard, storeCount);
    }

    public boolean now(int day) {
        if (!isWithin(day, today, MOST_DAYS - 1)) {
            return false;
        }
        today = day;
        return true;
    }

    public boolean seed(int x) {
        if (!isWithin(x, 0, 65535)) {
            return false;
        }
        firstX = x;
        this.x = x;
        return true;
    }

    public int feed(int a, int b, int c, int d, int e) {
        if (!tape.hasRoomFor(20)) {
            return NONE;
        }
        tape.putNumber(a);
        tape.putNumber(b);
        tape.putNumber(c);
        tape.putNumber(d);
        tape.putNumber(e);
        return tape.size;
    }

    public int law(int k, int n) {
        if (!isStore(k) || !isWithin(n, 1, MOST_TEXT) || n > tape.size) {
            return NONE;
        }
        int fault = reader.read(tape.bytes, n, spareLaw);
        tape.clear();
        if (fault != 0) {
            return fault;
        }
        Law before = laws[k];
        laws[k] = spareLaw;
        spareLaw = before;
        return laws[k].clauses;
    }

    public int gives(int h, int t, int k) {
        if (!isHead(h) || !isTask(t) || !isStore(k) || tasks.uses[t][k] == 0) {
            return NONE;
        }
        tellDoing(h, t, book.past, today);
        return storeGives(h, t, k);
    }

    public int does(int h, int t) {
        if (!isHead(h) || !isTask(t) || book.isFull()) {
            return NONE;
        }
        int had = has(h, t, book.past, today);
        x = drawBehind(x);
        int right = isRight(x, t, had) ? 1 : 0;
        book.add(h, t, today, right, had);
        return right;
    }

    public int told(int h, int t, int day, int right) {
        if (!isHead(h) || !isTask(t) || !isWithin(right, 0, 1) || book.isFull()) {
            return NONE;
        }
        if (!isWithin(day, book.latestDay(), today)) {
            return NONE;
        }
        return book.add(h, t, day, right, NONE);
    }

    public int answer(int i, int what) {
        if (!isWithin(i, 0, book.size - 1) || !isWithin(what, 0, 4)) {
            return NONE;
        }
        return book.columns[what][i];
    }

    public int can(int h, int t, int what) {
        if (!isHead(h) || !isTask(t)) {
            return NONE;
        }
        switch (what) {
            case 0:
                return book.answersOf(h, t);
            case 1:
                return book.rights[h][t];
            case 2:
                return book.ability(h, t);
            default:
                return NONE;
        }
    }

    public long worse(int x, int y, int t, int what) {
        if (!areTwoHeads(x, y) || !isTask(t) || !isWithin(what, 0, 1)) {
            return NONE;
        }
        if (!reckonOdds(x, y, t)) {
            return UNTOLD;
        }
        return what == 0 ? odds.above : odds.below;
    }

    public int parted(int x, int y, int a, int b, int thousandths) {
        if (!areTwoHeads(x, y) || !isTask(a) || !isTask(b) || a == b) {
            return NONE;
        }
        if (!isWithin(thousandths, 1, 1000)) {
            return NONE;
        }
        if (!areParted(x, y, a, b, thousandths)) {
            return 0;
        }
        return areParted(y, x, b, a, thousandths) ? 2 : 1;
    }

    public int fewest(int what) {
        if (what < NONE) {
            return NONE;
        }
        int sets = cover.find(book, headCount, tasks.size);
        if (sets == NONE) {
            return UNTOLD;
        }
        if (what == NONE) {
            return sets;
        }
        int place = what / 2;
        if (place >= sets || place >= MOST_FITTING) {
            return NONE;
        }
        int heads = cover.row[place];
        return what % 2 == 0 ? heads : cover.undoneBy(heads);
    }

    public int lacks(int h, int what) {
        if (!isHead(h) || !isWithin(what, 0, 1)) {
            return NONE;
        }
        int best = 0;
        int least = otherwiseBy(h, 0);
        for (int set = 1; set < 1 << storeCount; set++) {
            int many = otherwiseBy(h, set);
            boolean fewer = Integer.bitCount(set) < Integer.bitCount(best);
            if (many < least || many == least && fewer) {
                best = set;
                least = many;
            }
        }
        return what == 0 ? best : least;
    }

    public int next(int n, int what) {
        if (!isWithin(n, 2, 6) || !isWithin(what, 0, 1) || n > tape.size) {
            return NONE;
        }
        // The bytes stay behind the tape's end till something is put there.
        tape.clear();
        if (!areGuesses(n)) {
            return NONE;
        }
        if (tasks.size == 0) {
            return UNTOLD;
        }
        int best = 0;
        int most = pairsParted(0, n);
        for (int t = 1; t < tasks.size; t++) {
            int pairs = pairsParted(t, n);
            if (pairs > most) {
                best = t;
                most = pairs;
            }
        }
        return what == 0 ? best : most;
    }

    public int purest(int k) {
        return isStore(k) ? tasks.purestFor(k) : NONE;
    }

    public int old(int year, int ten, int knew) {
        if (!isWithin(year, 0, 99) || !isWithin(ten, 0, 10) || !isWithin(knew, 0, 1)) {
            return NONE;
        }
        return oldThings.add(year, ten, knew);
    }

    public int back(int what) {
        return isWithin(what, 0, 2) ? oldThings.howFarBack(what) : NONE;
    }

    public int lasts(int h, int t, int k, int much) {
        if (!isHead(h) || !isTask(t) || !isStore(k) || !isWithin(much, 1, 100)) {
            return NONE;
        }
        if (tasks.uses[t][k] == 0) {
            return NONE;
        }
        doing.tellTask(tasks.hard[t], t, today);
        for (int b = 0; b <= 100; b++) {
            doing.tellPast(1, 0, b, b + 1);
            if (storeGives(h, t, k) < much) {
                return b == 0 ? UNTOLD : b - 1;
            }
        }
        return 100;
    }

    public int mistakes(int h, int t, int n) {
        if (!isHead(h) || !isTask(t) || !isWithin(n, 0, MOST_MISTAKES)) {
            return NONE;
        }
        return curves.add(h, t, n);
    }

    public int curve(int h, int t, int what) {
        if (!isHead(h) || !isTask(t)) {
            return NONE;
        }
        switch (what) {
            case 0:
                return curves.better(h, t);
            case 1:
                return curves.asOthers(h, t, headCount);
            case 2:
                return curves.sizeOf(h, t);
            default:
                return NONE;
        }
    }

    public boolean asks(int h, int day) {
        if (!isHead(h) || !isWithin(day, 0, today) || isAsked(h, day)) {
            return false;
        }
        asked[h * MOST_DAYS + day] = true;
        return true;
    }

    public int unasked(int h) {
        if (!isHead(h)) {
            return NONE;
        }
        int days = 0;
        int latest = NONE;
        for (int i = 0; i < book.size; i++) {
            int day = book.columns[AnswerBook.DAY][i];
            // The days of answers never go back, so the same day is the one before.
            if (book.columns[AnswerBook.HEAD][i] == h && day != latest) {
                latest = day;
                days += isAsked(h, day) ? 0 : 1;
            }
        }
        return days;
    }

    public int again() {
        int right = 0;
        int draw = firstX;
        replayed.clear();
        for (int i = 0; i < book.size; i++) {
            int h = book.columns[AnswerBook.HEAD][i];
            int t = book.columns[AnswerBook.TASK][i];
            int day = book.columns[AnswerBook.DAY][i];
            if (book.columns[AnswerBook.HAD][i] != NONE) {
                draw = drawBehind(draw);
                right += isRight(draw, t, has(h, t, replayed, day)) ? 1 : 0;
            }
            replayed.add(h, t, day);
        }
        return right;
    }

    public int check(int n) {
        if (!isWithin(n, 0, MOST_TAPE / 16) || 16 * n > tape.size) {
            return UNTOLD;
        }
        // The bytes stay behind the tape's end till something is put there.
        tape.clear();
        for (int i = 0; i < 4 * n; i++) {
            if (i / 4 >= book.size || book.columns[i % 4][i / 4] != tape.numberAt(i)) {
                return i;
            }
        }
        return n < book.size ? 4 * n : NONE;
    }

    public int count(int what) {
        switch (what) {
            case 0:
                return today;
            case 1:
                return storeCount;
            case 2:
                return headCount;
            case 3:
                return tasks.size;
            case 4:
                return book.size;
            case 5:
                return oldThings.size;
            case 6:
                return tape.size;
            case 7:
                return x;
            default:
                return what >= 10 && isStore(what - 10) ? laws[what - 10].clauses : NONE;
        }
    }

    private static boolean isWithin(int number, int least, int greatest) {
        return number >= least && number <= greatest;
    }

    private boolean isHead(int h) {
        return h >= 0 && h < headCount;
    }

    private boolean isStore(int k) {
        return k >= 0 && k < storeCount;
    }

    private boolean isTask(int t) {
        return t >= 0 && t < tasks.size;
    }

    private boolean areTwoHeads(int first, int second) {
        return isHead(first) && isHead(second) && first != second;
    }

    private boolean isAsked(int h, int day) {
        return asked[h * MOST_DAYS + day];
    }

    private static int drawBehind(int draw) {
        return (25173 * draw + 13849) % 65536;
    }

    private boolean isRight(int draw, int t, int had) {
        return draw % 100 < 100 - Math.max(0, tasks.hard[t] - had);
    }

    private void tellDoing(int h, int t, Past past, int day) {
        doing.tellTask(tasks.hard[t], t, day);
        doing.tellPast(past.times[h][t], past.daysSince(h, t, day), past.othersSince(h, t), past.all[h]);
    }

    /** What a store gives to what has been told as the doing. */
    private int storeGives(int h, int t, int k) {
        doing.tellStore(tasks.uses[t][k], shares[h][k]);
        return shares[h][k] * laws[k].says(doing) / 100;
    }

    private int has(int h, int t, Past past, int day) {
        tellDoing(h, t, past, day);
        boolean needsAll = tasks.modes[t] == 0;
        int had = needsAll ? FULL : 0;
        for (int k = 0; k < storeCount; k++) {
            if (tasks.uses[t][k] > 0) {
                int given = storeGives(h, t, k);
                had = needsAll ? Math.min(had, given) : Math.max(had, given);
            }
        }
        return had;
    }

    private boolean reckonOdds(int first, int second, int t) {
        int firstAll = book.answersOf(first, t);
        int secondAll = book.answersOf(second, t);
        if (!isWithin(firstAll, 1, MOST_ODDS_ANSWERS) || !isWithin(secondAll, 1, MOST_ODDS_ANSWERS)) {
            return false;
        }
        odds.reckon(firstAll, book.rights[first][t], secondAll, book.rights[second][t]);
        return true;
    }

    private boolean isWorse(int first, int second, int t, int thousandths) {
        return reckonOdds(first, second, t) && odds.above * 1000 <= odds.below * thousandths;
    }

    private boolean areParted(int first, int second, int a, int b, int thousandths) {
        return isWorse(first, second, a, thousandths) && !isWorse(first, second, b, thousandths);
    }

    private int otherwiseBy(int h, int lacked) {
        int many = 0;
        for (int t = 0; t < tasks.size; t++) {
            int right = book.rights[h][t];
            many += tasks.isDoneWithout(t, lacked) ? book.answersOf(h, t) - right : right;
        }
        return many;
    }

    private boolean areGuesses(int n) {
        for (int i = 0; i < n; i++) {
            if (tape.bytes[i] >= 1 << storeCount) {
                return false;
            }
        }
        return true;
    }

    private int pairsParted(int t, int n) {
        int done = 0;
        for (int i = 0; i < n; i++) {
            done += tasks.isDoneWithout(t, tape.bytes[i]) ? 1 : 0;
        }
        return done * (n - done);
    }

    /** The bytes that wait to be used. */
    private static final class Tape {
        final int[] bytes = new int[MOST_TAPE];
        int size;

        void clear() {
            size = 0;
        }

        boolean hasRoomFor(int many) {
            return size + many <= MOST_TAPE;
        }

        void putNumber(int number) {
            for (int shift = 24; shift >= 0 && size < MOST_TAPE; shift -= 8) {
                bytes[size] = number >>> shift & 255;
                size++;
            }
        }

        int numberAt(int place) {
            int number = 0;
            for (int i = 4 * place; i < 4 * place + 4 && i < MOST_TAPE; i++) {
                number = number << 8 | bytes[i];
            }
            return number;
        }
    }

    /** What the letters of a law stand for while a head does a task. */
    private static final class Doing {
        private final int[] letters = new int[9];

        void tellPast(int times, int days, int others, int all) {
            letters[0] = times;
            letters[1] = days;
            letters[2] = others;
            letters[3] = all;
        }

        void tellTask(int hard, int number, int day) {
            letters[4] = hard;
            letters[7] = number;
            letters[8] = day;
        }

        void tellStore(int uses, int share) {
            letters[5] = uses;
            letters[6] = share;
        }

        int letter(int place) {
            return place >= 0 && place < letters.length ? letters[place] : 0;
        }
    }

    /** The law of a store as a row of steps, values ahead of the signs that join them: its text is read once only. */
    private static final class Law {
        int clauses;
        private final int[] signs = new int[MOST_TEXT];
        private final int[] values = new int[MOST_TEXT];
        private final int[] amountAt = new int[MOST_CLAUSES + 1];
        private final int[] conditionAt = new int[MOST_CLAUSES];
        private final int[] stack = new int[MOST_TEXT];
        private int size;
        private int height;
        private boolean refused;

        void clear() {
            size = 0;
            clauses = 0;
        }

        /** Each step has a sign of the text of its own, so there is room for all. */
        int add(int sign, int value) {
            if (size >= MOST_TEXT) {
                return NONE;
            }
            signs[size] = sign;
            values[size] = value;
            size++;
            return size - 1;
        }

        /** The step of a & or | goes on here, if what stands ahead of it settles it. */
        void landHere(int step) {
            if (step >= 0 && step < size) {
                values[step] = size;
            }
        }

        void openCondition() {
            if (clauses < MOST_CLAUSES) {
                conditionAt[clauses] = size;
            }
        }

        void closeClause() {
            if (clauses < MOST_CLAUSES) {
                clauses++;
                amountAt[clauses] = size;
            }
        }

        int says(Doing doing) {
            if (clauses == 0) {
                return FULL;
            }
            for (int i = 0; i < clauses; i++) {
                int holds = reckon(conditionAt[i], amountAt[i + 1], doing);
                if (!refused && holds != 0) {
                    int amount = reckon(amountAt[i], conditionAt[i], doing);
                    return refused ? 0 : Math.max(0, Math.min(FULL, amount));
                }
            }
            return 0;
        }

        private int reckon(int from, int to, Doing doing) {
            refused = false;
            height = 0;
            for (int i = from; i < to && !refused; i++) {
                int sign = signs[i];
                if (sign == NUMBER) {
                    push(values[i]);
                } else if (sign == LETTER) {
                    push(doing.letter(values[i]));
                } else if (sign == '!') {
                    push(1 - pop());
                } else if (sign == '&' || sign == '|') {
                    int held = pop();
                    if ((held == 0) == (sign == '&')) {
                        push(held);
                        i = Math.max(i, values[i] - 1);
                    }
                } else {
                    int right = pop();
                    push(joined(sign, pop(), right));
                }
            }
            return pop();
        }

        private int joined(int sign, int left, int right) {
            switch (sign) {
                case '+':
                    return left + right;
                case '-':
                    return left - right;
                case '*':
                    return left * right;
                case '<':
                    return left < right ? 1 : 0;
                case '>':
                    return left > right ? 1 : 0;
                case '=':
                    return left == right ? 1 : 0;
                default:
                    return divided(sign, left, right);
            }
        }

        private int divided(int sign, int left, int right) {
            if (right == 0) {
                refused = true;
                return 0;
            }
            return sign == '/' ? left / right : left % right;
        }

        private void push(int value) {
            if (height < MOST_TEXT) {
                stack[height] = value;
                height++;
            }
        }

        private int pop() {
            if (height <= 0) {
                return 0;
            }
            height--;
            return stack[height];
        }
    }

    /** Reads a text into a law, or finds its first fault. Behind a fault it sees only the end, so all loops stop. */
    private static final class LawReader {
        private static final int END = -1;
        private static final int CANNOT_STAND = 1;
        private static final int SIXTH_DIGIT = 2;
        private static final int THIRTEENTH_CLAUSE = 4;
        private static final int SEVENTH_OPEN = 5;

        private int[] text;
        private int length;
        private int at;
        private int fault;
        private Law law;

        /** 0, or the fault as it is told. */
        int read(int[] bytes, int n, Law into) {
            text = bytes;
            length = Math.min(n, bytes.length);
            at = 0;
            fault = 0;
            law = into;
            law.clear();
            readClause();
            for (int i = 0; i < length && sign() == ';'; i++) {
                at++;
                readClause();
            }
            if (at < length) {
                fail(CANNOT_STAND);
            }
            return fault;
        }

        private int sign() {
            return fault == 0 && at < length ? text[at] : END;
        }

        private void fail(int number) {
            if (fault == 0) {
                fault = -1000 * number - at;
            }
        }

        private void pass(int sign) {
            if (sign() == sign) {
                at++;
            } else {
                fail(CANNOT_STAND);
            }
        }

        /** Passes a sign that opens, if as many as are open already leave it room. */
        private boolean opens(int open) {
            if (open >= MOST_OPEN) {
                fail(SEVENTH_OPEN);
                return false;
            }
            at++;
            return true;
        }

        private void readClause() {
            if (sign() == 'g' && law.clauses >= MOST_CLAUSES) {
                fail(THIRTEENTH_CLAUSE);
            }
            pass('g');
            readSum(0);
            law.openCondition();
            pass('(');
            readChoice(1);
            pass(')');
            law.closeClause();
        }

        private void readChoice(int open) {
            readPart(open);
            for (int i = 0; i < length && sign() == '|'; i++) {
                at++;
                int step = law.add('|', 0);
                readPart(open);
                law.landHere(step);
            }
        }

        private void readPart(int open) {
            readPiece(open);
            for (int i = 0; i < length && sign() == '&'; i++) {
                at++;
                int step = law.add('&', 0);
                readPiece(open);
                law.landHere(step);
            }
        }

        private void readPiece(int open) {
            int sign = sign();
            if (sign == '!') {
                readDenial(open);
            } else if (sign == '(') {
                readBracketed(open);
            } else {
                readComparison(open);
            }
        }

        private void readDenial(int open) {
            if (opens(open)) {
                readPiece(open + 1);
                law.add('!', 0);
            }
        }

        private void readBracketed(int open) {
            if (opens(open)) {
                readChoice(open + 1);
                pass(')');
            }
        }

        private void readComparison(int open) {
            readSum(open);
            int sign = sign();
            if (sign == '<' || sign == '>' || sign == '=') {
                at++;
                readSum(open);
                law.add(sign, 0);
            } else {
                fail(CANNOT_STAND);
            }
        }

        private void readSum(int open) {
            readProduct(open);
            int sign = sign();
            for (int i = 0; i < length && (sign == '+' || sign == '-'); i++) {
                at++;
                readProduct(open);
                law.add(sign, 0);
                sign = sign();
            }
        }

        private void readProduct(int open) {
            readFactor(open);
            int sign = sign();
            for (int i = 0; i < length && (sign == '*' || sign == '/' || sign == '%'); i++) {
                at++;
                readFactor(open);
                law.add(sign, 0);
                sign = sign();
            }
        }

        private void readFactor(int open) {
            int sign = sign();
            int letter = sign < 0 ? NONE : LETTERS.indexOf((char) sign);
            if (sign == '[') {
                if (opens(open)) {
                    readSum(open + 1);
                    pass(']');
                }
            } else if (letter >= 0) {
                at++;
                law.add(LETTER, letter);
            } else if (isDigit(sign)) {
                readNumber();
            } else {
                fail(CANNOT_STAND);
            }
        }

        private void readNumber() {
            int number = 0;
            for (int i = 0; i < 5 && isDigit(sign()); i++) {
                number = 10 * number + sign() - '0';
                at++;
            }
            if (isDigit(sign())) {
                fail(SIXTH_DIGIT);
            }
            law.add(NUMBER, number);
        }

        private static boolean isDigit(int sign) {
            return sign >= '0' && sign <= '9';
        }
    }

    /** The tasks, and what each needs. */
    private static final class TaskList {
        final int[][] uses = new int[MOST_TASKS][MOST_STORES];
        final int[] modes = new int[MOST_TASKS];
        final int[] hard = new int[MOST_TASKS];
        int size;
        private final int[] needs = new int[MOST_TASKS];
        private final int[] total = new int[MOST_TASKS];

        int add(int digits, int mode, int hardness, int stores) {
            if (digits <= 0 || size >= MOST_TASKS) {
                return NONE;
            }
            int rest = digits;
            needs[size] = 0;
            total[size] = 0;
            for (int k = 0; k < stores && k < MOST_STORES; k++) {
                int digit = rest % 10;
                rest /= 10;
                uses[size][k] = digit;
                total[size] += digit;
                needs[size] |= digit > 0 ? 1 << k : 0;
            }
            if (rest > 0) {
                return NONE;
            }
            modes[size] = mode;
            hard[size] = hardness;
            size++;
            return size - 1;
        }

        boolean isDoneWithout(int t, int lacked) {
            if (modes[t] == 0) {
                return (needs[t] & lacked) == 0;
            }
            return (needs[t] & ~lacked) != 0;
        }

        /** The others' part is least where the store's own part is greatest. */
        int purestFor(int k) {
            int best = NONE;
            for (int t = 0; t < size; t++) {
                if (uses[t][k] > 0 && (best == NONE || uses[t][k] * total[best] > uses[best][k] * total[t])) {
                    best = t;
                }
            }
            return best;
        }
    }

    /** How often, and when last, heads have done tasks. */
    private static final class Past {
        final int[][] times = new int[MOST_HEADS][MOST_TASKS];
        final int[] all = new int[MOST_HEADS];
        private final int[][] latestDay = new int[MOST_HEADS][MOST_TASKS];
        private final int[][] allThen = new int[MOST_HEADS][MOST_TASKS];

        void clear() {
            Arrays.fill(all, 0);
            for (int h = 0; h < MOST_HEADS; h++) {
                Arrays.fill(times[h], 0);
            }
        }

        void add(int h, int t, int day) {
            times[h][t]++;
            all[h]++;
            latestDay[h][t] = day;
            allThen[h][t] = all[h];
        }

        int daysSince(int h, int t, int day) {
            return times[h][t] == 0 ? MOST_DAYS : day - latestDay[h][t];
        }

        int othersSince(int h, int t) {
            return times[h][t] == 0 ? 0 : all[h] - allThen[h][t];
        }
    }

    /** All answers, played and told. */
    private static final class AnswerBook {
        static final int HEAD = 0;
        static final int TASK = 1;
        static final int DAY = 2;
        static final int RIGHT = 3;
        static final int HAD = 4;

        final int[][] columns = new int[5][MOST_ANSWERS];
        final int[][] rights = new int[MOST_HEADS][MOST_TASKS];
        final Past past = new Past();
        int size;

        boolean isFull() {
            return size >= MOST_ANSWERS;
        }

        int latestDay() {
            return size == 0 ? 0 : columns[DAY][size - 1];
        }

        int add(int h, int t, int day, int right, int had) {
            if (isFull()) {
                return NONE;
            }
            columns[HEAD][size] = h;
            columns[TASK][size] = t;
            columns[DAY][size] = day;
            columns[RIGHT][size] = right;
            columns[HAD][size] = had;
            rights[h][t] += right;
            past.add(h, t, day);
            size++;
            return size - 1;
        }

        int answersOf(int h, int t) {
            return past.times[h][t];
        }

        /** 1: the head can do the task, 0: it can't, 2: not known. */
        int ability(int h, int t) {
            int twice = 2 * rights[h][t];
            int all = answersOf(h, t);
            if (twice == all) {
                return NOT_KNOWN;
            }
            return twice > all ? 1 : 0;
        }
    }

    /** The odds that lot alone would leave the first of two heads so few right answers, or fewer. */
    private static final class Odds {
        long above;
        long below = 1;

        void reckon(int firstAll, int firstRight, int secondAll, int secondRight) {
            int right = firstRight + secondRight;
            long lots = 0;
            for (int i = 0; i <= firstRight; i++) {
                lots += ways(firstAll, i) * ways(secondAll, right - i);
            }
            long allLots = ways(firstAll + secondAll, right);
            long divisor = Math.max(1, commonDivisor(allLots, lots));
            above = lots / divisor;
            below = allLots / divisor;
        }

        /** How many sets of so many there are. Fits for 50 at most, as the document leaves no more. */
        private static long ways(int all, int taken) {
            if (taken < 0 || taken > all) {
                return 0;
            }
            long many = 1;
            for (int i = 1; i <= taken; i++) {
                many = many * (all - taken + i) / i;
            }
            return many;
        }

        private static long commonDivisor(long a, long b) {
            for (int i = 0; i < 1000 && b != 0; i++) {
                long rest = a % b;
                a = b;
                b = rest;
            }
            return a;
        }
    }

    /** Looks for the fewest sets of heads that explain all that heads can't do. */
    private static final class Cover {
        final int[] row = new int[MOST_FITTING];
        private final int[] done = new int[MOST_HEADS];
        private final int[] undone = new int[MOST_HEADS];
        // For each set of heads the pairs of a head and a task that it explains, and all those from it on.
        private final long[] explains = new long[1 << MOST_HEADS];
        private final long[] explainsOn = new long[(1 << MOST_HEADS) + 1];
        // For each pair all those that some set explains along with it.
        private final long[] besides = new long[MOST_HEADS * MOST_TASKS];
        private int sets;
        private int allTasks;
        private int wanted;

        /** How many sets there are in the row; NONE if too many would be wanted. */
        int find(AnswerBook book, int heads, int tasks) {
            sets = 1 << heads;
            allTasks = (1 << tasks) - 1;
            lookUp(book, heads, tasks);
            tellWhatSetsExplain();
            long all = explainsOn[0];
            for (wanted = 0; wanted <= MOST_FITTING; wanted++) {
                if (fits(0, 1, all)) {
                    return wanted;
                }
            }
            return NONE;
        }

        int undoneBy(int heads) {
            int tasks = allTasks;
            for (int h = 0; h < MOST_HEADS; h++) {
                tasks &= (heads >> h & 1) == 1 ? ~done[h] : allTasks;
            }
            return tasks;
        }

        private void lookUp(AnswerBook book, int heads, int tasks) {
            Arrays.fill(done, 0);
            Arrays.fill(undone, 0);
            for (int h = 0; h < heads; h++) {
                for (int t = 0; t < tasks; t++) {
                    int ability = book.ability(h, t);
                    done[h] |= ability == 1 ? 1 << t : 0;
                    undone[h] |= ability == 0 ? 1 << t : 0;
                }
            }
        }

        private void tellWhatSetsExplain() {
            explainsOn[sets] = 0;
            Arrays.fill(besides, 0);
            for (int set = 0; set < sets; set++) {
                explains[set] = explainedBy(set);
                tellBesides(explains[set]);
            }
            for (int set = sets - 1; set >= 0; set--) {
                // In the least row a set never stands where a lower one does as much.
                if (isOutdone(set)) {
                    explains[set] = 0;
                }
                explainsOn[set] = explainsOn[set + 1] | explains[set];
            }
        }

        private long explainedBy(int set) {
            int tasks = undoneBy(set);
            long pairs = 0;
            for (int h = 0; h < MOST_HEADS; h++) {
                if ((set >> h & 1) == 1) {
                    pairs |= (long) (undone[h] & tasks) << h * MOST_TASKS;
                }
            }
            return pairs;
        }

        private void tellBesides(long pairs) {
            for (int i = 0; i < MOST_HEADS * MOST_TASKS; i++) {
                besides[i] |= (pairs >> i & 1) == 1 ? pairs : 0;
            }
        }

        private boolean isOutdone(int set) {
            for (int lower = 0; lower < set; lower++) {
                if ((explains[set] & ~explains[lower]) == 0) {
                    return true;
                }
            }
            return false;
        }

        /** Whether the row can be filled from this place on, by sets from this one on, so that no pair is left. */
        private boolean fits(int place, int from, long left) {
            if (place >= wanted || place >= MOST_FITTING) {
                return left == 0;
            }
            if (wantsMoreThan(wanted - place, left)) {
                return false;
            }
            for (int set = from; set < sets; set++) {
                if ((left & ~explainsOn[set]) != 0) {
                    return false;
                }
                long rest = left & ~explains[set];
                if (rest != left && fitsBehind(place, set, rest)) {
                    return true;
                }
            }
            return false;
        }

        /** Pairs of which no two are explained by one set want a set each: without this look the search is long. */
        private boolean wantsMoreThan(int many, long left) {
            long rest = left;
            for (int i = 0; i < many && rest != 0; i++) {
                rest &= ~besides[lowestOf(rest)];
            }
            return rest != 0;
        }

        private static int lowestOf(long pairs) {
            return Math.min(Long.bitCount((pairs & -pairs) - 1), MOST_HEADS * MOST_TASKS - 1);
        }

        private boolean fitsBehind(int place, int set, long left) {
            row[place] = set;
            return fits(place + 1, set + 1, left);
        }
    }

    /** Old things, and how far back he knows them. */
    private static final class OldThings {
        private final int[] years = new int[MOST_OLD];
        private final int[] tens = new int[MOST_OLD];
        private final int[] knews = new int[MOST_OLD];
        int size;

        int add(int year, int ten, int knew) {
            if (size >= MOST_OLD) {
                return NONE;
            }
            years[size] = year;
            tens[size] = ten;
            knews[size] = knew;
            size++;
            return size;
        }

        /** What 0: the first year that fits best, 1: the last, 2: how many things are otherwise. */
        int howFarBack(int what) {
            int first = 0;
            int last = 0;
            int least = otherwiseFrom(0);
            for (int year = 1; year <= 100; year++) {
                int many = otherwiseFrom(year);
                if (many < least) {
                    first = year;
                    least = many;
                }
                if (many <= least) {
                    last = year;
                }
            }
            if (what == 2) {
                return least;
            }
            return what == 0 ? first : last;
        }

        private int otherwiseFrom(int year) {
            int many = 0;
            for (int i = 0; i < size; i++) {
                int due = years[i] < year ? 1 : 0;
                if (tens[i] > 5 && knews[i] != due) {
                    many++;
                }
            }
            return many;
        }
    }

    /** The mistakes of heads at tasks, one behind the other. */
    private static final class Curves {
        private final int[] mistakes = new int[MOST_HEADS * MOST_TASKS * MOST_CURVE];
        private final int[][] sizes = new int[MOST_HEADS][MOST_TASKS];

        private static int startOf(int h, int t) {
            return (h * MOST_TASKS + t) * MOST_CURVE;
        }

        int sizeOf(int h, int t) {
            return sizes[h][t];
        }

        int add(int h, int t, int many) {
            if (sizes[h][t] >= MOST_CURVE) {
                return NONE;
            }
            mistakes[startOf(h, t) + sizes[h][t]] = many;
            sizes[h][t]++;
            return sizes[h][t];
        }

        int better(int h, int t) {
            int start = startOf(h, t);
            int longest = 0;
            int row = 0;
            for (int i = start; i < start + sizes[h][t]; i++) {
                boolean isMore = i > start && mistakes[i] > mistakes[i - 1];
                row = isMore ? 1 : row + 1;
                longest = Math.max(longest, row);
            }
            return longest;
        }

        int asOthers(int h, int t, int heads) {
            int places = 0;
            for (int i = 0; i < sizes[h][t]; i++) {
                places += isAsOthersAt(i, h, t, heads) ? 1 : 0;
            }
            return places;
        }

        /** With nobody else at the place the least stays above the greatest, and nothing is between. */
        private boolean isAsOthersAt(int place, int h, int t, int heads) {
            int least = MOST_MISTAKES + 1;
            int greatest = -1;
            for (int other = 0; other < heads; other++) {
                if (other != h && place < sizes[other][t]) {
                    int many = mistakes[startOf(other, t) + place];
                    least = Math.min(least, many);
                    greatest = Math.max(greatest, many);
                }
            }
            int own = mistakes[startOf(h, t) + place];
            return own >= least && own <= greatest;
        }
    }
}
