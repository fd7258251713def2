import java.util.Arrays;

/** In others' shoes: a land told as a text, its travellers, and the shoes that pull them. */
public final class OthersShoes {
    /** There is none; it is refused. */
    public static final int NONE = -1;
    /** Told where a number below 0 may be an answer. */
    public static final long NOTHING = -1000000000000000L;

    private static final int MOST_BYTES = 1600;
    private static final int FED_BYTES = 20;
    private static final int MOST_STATEMENTS = 80;
    private static final int MOST_PLACES = 7;
    private static final int MOST_ROADS = 12;
    private static final int MOST_PAIRS = 8;
    private static final int MOST_WALKERS = 6;
    private static final int NAME_LETTERS = 6;
    private static final int NUMBER_DIGITS = 4;
    private static final int MOST_NUMBER = 9999;
    private static final int MOST_OPEN = 6;
    private static final int MOST_HABIT = 9;
    private static final int MOST_WILL = 99;
    private static final int MOST_SIZE = 50;
    private static final int MOST_LAW = 2;
    private static final int MOST_WALKED = 999;
    private static final int MOST_DAY = 999;
    private static final int MOST_RAIN = 100;
    private static final int TRIED_LEGS = 30;
    private static final int AHEAD_DAYS = 60;
    private static final int ACT_DAYS = 100;
    private static final int MOST_UNDONE = 20;
    private static final int MOST_ROWS = 16;
    private static final int MOST_IMAGE = 64;
    private static final int FRONTIER = 0;

    private static final int WRONG_BYTE = 1;
    private static final int WRONG_NUMBER = 2;
    private static final int WRONG_NAME = 3;
    private static final int TOO_DEEP = 4;
    private static final int TOO_MANY = 5;

    private static final int REFUSED_TAPE = 0;
    private static final int REFUSED_TEXT = 1;
    private static final int REFUSED_ACT = 2;
    private static final int REFUSED_DAYS = 3;
    private static final int REFUSED_UNDO = 4;
    private static final int REFUSED_OTHER = 5;
    private static final int REFUSED_KINDS = 6;

    // What a formula can ask of a walker: places in a row of facts.
    private static final int NUMBER_FACT = 0;
    private static final int SIZE_FACT = 1;
    private static final int WILL_FACT = 2;
    private static final int HABIT_FACT = 3;
    private static final int TIGHT_FACT = 4;
    private static final int WALKED_FACT = 5;
    private static final int DAY_FACT = 6;
    private static final int WENT_FACT = 7;
    private static final int THERE_FACT = 8;
    private static final int AT_FACT = 9;
    private static final int FACTS = 10;

    // A formula's code: numbers as they are, then facts, then what is done with the latest values.
    private static final int FACT_CODES = 10000;
    private static final int ADD = 20000;
    private static final int SUBTRACT = 20001;
    private static final int MULTIPLY = 20002;
    private static final int DIVIDE = 20003;
    private static final int LEAST = 20004;
    private static final int GREATEST = 20005;
    private static final int BELOW = 20006;
    private static final int ABOVE = 20007;
    private static final int LIKE = 20008;
    private static final int AND = 20009;
    private static final int OR = 20010;
    private static final int NOT = 20011;
    private static final int FAR = 20012;

    private final Tape tape = new Tape();
    private final Formula question = new Formula();
    private final Grammar grammar = new Grammar(tape);
    private final Teller teller = new Teller(tape, grammar);
    private final Feet feet = new Feet();
    private final Trials trials = new Trials(feet);
    private final Dealer dealer = new Dealer();
    private final Footprints footprints = new Footprints();
    private final State now = new State();
    private final State plan = new State();
    private final State[] past = new State[MOST_UNDONE];
    private final int[] refused = new int[REFUSED_KINDS];
    private final int[] imageBytes = new int[MOST_IMAGE];
    private Land known = new Land();
    private Land spare = new Land();
    private int imageLength = 0;
    private int pastFirst = 0;
    private int pastCount = 0;
    private int seedNow = 1;

    public OthersShoes() {
        for (int k = 0; k < MOST_UNDONE; k++) {
            past[k] = new State();
        }
        feet.land = known;
    }

    public int feed(int a, int b, int c, int d, int e) {
        if (tape.length > MOST_BYTES - FED_BYTES) {
            return refuse(REFUSED_TAPE);
        }
        tape.put(a);
        tape.put(b);
        tape.put(c);
        tape.put(d);
        tape.put(e);
        return tape.length;
    }

    public boolean end(int n) {
        if (n < 0 || n > tape.length) {
            refuse(REFUSED_TAPE);
            return false;
        }
        tape.length = n;
        return true;
    }

    public int land() {
        boolean sound = teller.read(spare);
        tape.length = 0;
        if (!sound) {
            return refuse(REFUSED_TEXT);
        }
        Land former = known;
        known = spare;
        spare = former;
        feet.land = known;
        now.beginIn(known);
        footprints.rows = 0;
        pastCount = 0;
        return known.statements;
    }

    public int fault(int what) {
        if (what == 0) {
            return tape.fault;
        }
        return what == 1 ? tape.faultAt : NONE;
    }

    public int has(int what) {
        switch (what) {
            case 0: return known.places.count;
            case 1: return known.roads;
            case 2: return known.pairs.count;
            case 3: return known.walkers.count;
            case 4: return now.day;
            case 5: return now.law;
            case 6: return now.shelfCount;
            case 7: return howManyCrossed();
            case 8: return feet.howManyThere(now);
            case 9: return footprints.rows;
            case 10: return pastCount;
            default: return NONE;
        }
    }

    public int letter(int kind, int which, int k) {
        switch (kind) {
            case 0: return known.places.letterOf(which, k);
            case 1: return known.pairs.letterOf(which, k);
            case 2: return known.walkers.letterOf(which, k);
            default: return NONE;
        }
    }

    public int miles(int from, int to) {
        return known.milesBetween(from, to);
    }

    public int next(int from, int to) {
        return known.stepTowards(from, to);
    }

    public int pair(int pair, int what) {
        if (!known.pairs.holds(pair)) {
            return NONE;
        }
        switch (what) {
            case 0: return known.pairSize[pair];
            case 1: return known.pairPulls[pair];
            case 2: return now.habit[pair];
            case 3: return now.wearerOf(pair, known.walkers.count);
            default: return NONE;
        }
    }

    public int walker(int walker, int what) {
        if (!known.walkers.holds(walker)) {
            return NONE;
        }
        switch (what) {
            case 0: return known.walkerSize[walker];
            case 1: return known.walkerWill[walker];
            case 2: return known.walkerGoal[walker];
            case 3: return now.wears[walker];
            case 4: return now.at[walker];
            case 5: return now.walked[walker];
            case 6: return feet.isThere(now, walker) ? 1 : 0;
            default: return NONE;
        }
    }

    public int shelf(int k) {
        return k >= 0 && k < now.shelfCount ? now.shelf[k] : NONE;
    }

    public int gets(int walker) {
        if (!isAtHome(walker)) {
            return NONE;
        }
        int k = now.choiceFor(known, walker, now.law);
        return k == NONE ? NONE : now.shelf[k];
    }

    public int tries(int walker, int pair) {
        if (!canTry(walker, pair)) {
            return NONE;
        }
        return trials.follow(now, walker, pair, pair, known.walkerWill[walker]);
    }

    public int where(int walker, int pair, int legs) {
        if (!canTry(walker, pair) || legs < 0 || legs > TRIED_LEGS) {
            return NONE;
        }
        trials.follow(now, walker, pair, pair, known.walkerWill[walker]);
        return trials.path[legs];
    }

    public int firm(int walker, int pair) {
        if (!canTry(walker, pair)) {
            return NONE;
        }
        for (int will = 0; will <= MOST_WILL; will++) {
            if (trials.follow(now, walker, pair, pair, will) != NONE) {
                return will;
            }
        }
        return NONE;
    }

    public int odd(int walker, int first, int second) {
        if (!canTry(walker, first) || !known.pairs.holds(second) || first == second) {
            return NONE;
        }
        return trials.follow(now, walker, first, second, known.walkerWill[walker]);
    }

    public int deal(int walker) {
        if (walker != NONE && !isAtHome(walker)) {
            return NONE;
        }
        dealer.findBest(now, known, trials);
        return walker == NONE ? dealer.bestThere : dealer.best[walker];
    }

    public int lawed(int law) {
        if (law < 0 || law > MOST_LAW) {
            return NONE;
        }
        plan.setFrom(now);
        int there = 0;
        for (int walker = 0; walker < known.walkers.count; walker++) {
            if (plan.at[walker] == NONE && plan.shelfCount > 0) {
                int pair = plan.takeAcross(known, walker, law);
                if (trials.follow(now, walker, pair, pair, known.walkerWill[walker]) != NONE) {
                    there++;
                }
            }
        }
        return there;
    }

    public int later(int walker, int n, int what) {
        if (!known.walkers.holds(walker) || n < 0 || n > daysAhead()) {
            return NONE;
        }
        plan.setFrom(now);
        for (int day = 0; day < n; day++) {
            passDayFor(plan, walker);
        }
        switch (what) {
            case 0: return plan.at[walker];
            case 1: return plan.walked[walker];
            case 2: return plan.habit[plan.wears[walker]];
            default: return NONE;
        }
    }

    public int arrives(int walker) {
        if (!known.walkers.holds(walker) || now.at[walker] == NONE) {
            return NONE;
        }
        int most = daysAhead();
        plan.setFrom(now);
        for (int day = 0; day <= most; day++) {
            if (feet.isThere(plan, walker)) {
                return day;
            }
            passDayFor(plan, walker);
        }
        return NONE;
    }

    public int see() {
        boolean sound = footprints.takeRows(tape, known.places.count);
        tape.length = 0;
        return sound ? footprints.rows : refuse(REFUSED_TEXT);
    }

    public int prints(int what) {
        if (what < 0 || what > 2) {
            return NONE;
        }
        footprints.compare(now, known, trials);
        if (what == 0) {
            return footprints.left;
        }
        return what == 1 ? footprints.walkersLeft : footprints.pairsLeft;
    }

    public int tells(int what) {
        if (what < 0 || what > 1) {
            return NONE;
        }
        footprints.compare(now, known, trials);
        if (footprints.left == 0) {
            return NONE;
        }
        int leg = footprints.tellingLeg();
        return what == 0 ? leg : footprints.mostLeftBy(leg);
    }

    public int cross(int walker) {
        if (!isAtHome(walker) || now.shelfCount == 0) {
            return refuse(REFUSED_ACT);
        }
        remember();
        return now.takeAcross(known, walker, now.law);
    }

    public int back(int walker) {
        if (!known.walkers.holds(walker) || now.at[walker] == NONE) {
            return refuse(REFUSED_ACT);
        }
        remember();
        return now.bringHome(walker);
    }

    public boolean law(int law) {
        if (law < 0 || law > MOST_LAW || law == now.law) {
            refuse(REFUSED_ACT);
            return false;
        }
        remember();
        now.law = law;
        return true;
    }

    public int days(int n) {
        if (!canPass(n)) {
            return refuse(REFUSED_DAYS);
        }
        remember();
        int before = feet.howManyThere(now);
        for (int day = 0; day < n; day++) {
            for (int walker = 0; walker < known.walkers.count; walker++) {
                feet.walkDay(now, walker);
            }
            now.day++;
        }
        return feet.howManyThere(now) - before;
    }

    public int chance(int n) {
        if (!canPass(n)) {
            return refuse(REFUSED_DAYS);
        }
        remember();
        int wet = 0;
        for (int day = 0; day < n; day++) {
            wet += passDayInRain();
        }
        return wet;
    }

    public boolean undo() {
        if (pastCount == 0) {
            refuse(REFUSED_UNDO);
            return false;
        }
        pastCount--;
        now.setFrom(past[(pastFirst + pastCount) % MOST_UNDONE]);
        return true;
    }

    public boolean seed(int seed) {
        if (seed < 0) {
            refuse(REFUSED_OTHER);
            return false;
        }
        seedNow = seed;
        return true;
    }

    public long ask() {
        int kind = grammar.readQuestion(question);
        tape.length = 0;
        if (kind == NONE) {
            return NOTHING;
        }
        return kind <= Grammar.OFTEN ? answerOfTest(kind) : answerOfSum(kind);
    }

    public int image() {
        imageLength = now.writeTo(imageBytes, known);
        return imageLength;
    }

    public int octet(int k) {
        return k >= 0 && k < imageLength ? imageBytes[k] : NONE;
    }

    public boolean on() {
        boolean sound = plan.readFrom(tape, known);
        tape.length = 0;
        if (!sound) {
            refuse(REFUSED_OTHER);
            return false;
        }
        now.setFrom(plan);
        pastCount = 0;
        return true;
    }

    public int status(int what) {
        return what >= 0 && what < REFUSED_KINDS ? refused[what] : NONE;
    }

    private int refuse(int kind) {
        refused[kind]++;
        return NONE;
    }

    private boolean isAtHome(int walker) {
        return known.walkers.holds(walker) && now.at[walker] == NONE;
    }

    private boolean canTry(int walker, int pair) {
        return known.walkers.holds(walker) && known.pairs.holds(pair);
    }

    private boolean canPass(int days) {
        return days >= 1 && days <= ACT_DAYS && days <= MOST_DAY - now.day;
    }

    private int daysAhead() {
        return Math.min(AHEAD_DAYS, MOST_DAY - now.day);
    }

    private int howManyCrossed() {
        int many = 0;
        for (int walker = 0; walker < known.walkers.count; walker++) {
            if (now.at[walker] != NONE) {
                many++;
            }
        }
        return many;
    }

    // No walker's legs change anything for another one, so a look ahead follows the one asked for.
    private void passDayFor(State state, int walker) {
        feet.walkDay(state, walker);
        state.day++;
    }

    private int passDayInRain() {
        int wet = 0;
        for (int walker = 0; walker < known.walkers.count; walker++) {
            if (now.at[walker] != NONE) {
                if (draw(100) < known.rain) {
                    wet++;
                } else {
                    feet.walkDay(now, walker);
                }
            }
        }
        now.day++;
        return wet;
    }

    private int draw(int many) {
        seedNow = (int) ((1103515245L * seedNow + 12345L) & 0x7fffffffL);
        return many > 0 ? seedNow / 64 % many : 0;
    }

    private void remember() {
        past[(pastFirst + pastCount) % MOST_UNDONE].setFrom(now);
        if (pastCount < MOST_UNDONE) {
            pastCount++;
        } else {
            pastFirst = (pastFirst + 1) % MOST_UNDONE;
        }
    }

    private int valueFor(int walker) {
        feet.lookAt(now, walker);
        return question.valueOf(feet.facts, known);
    }

    private long answerOfTest(int kind) {
        int first = NONE;
        int last = NONE;
        int often = 0;
        for (int walker = 0; walker < known.walkers.count; walker++) {
            if (valueFor(walker) != 0) {
                first = first == NONE ? walker : first;
                last = walker;
                often++;
            }
        }
        if (kind == Grammar.FIRST) {
            return first;
        }
        return kind == Grammar.LAST ? last : often;
    }

    private long answerOfSum(int kind) {
        long answer = 0;
        for (int walker = 0; walker < known.walkers.count; walker++) {
            long value = valueFor(walker);
            if (kind == Grammar.TOTAL) {
                answer += value;
            } else if (walker == 0) {
                answer = value;
            } else {
                answer = kind == Grammar.MOST ? Math.max(answer, value) : Math.min(answer, value);
            }
        }
        return answer;
    }

    /** The bytes fed, read word by word, with the fault of the latest reading. */
    private static final class Tape {
        static final int END = 0;
        static final int WORD = 1;
        static final int NUMBER = 2;
        static final int SIGN = 3;
        static final int BLANK = 4;
        /** A word or a number without the blank that it needs ahead: nothing takes it. */
        static final int STUCK = 5;

        // In two rows for the length of a line alone.
        private static final String OWN_WORDS = "place road miles pair size pulls by walker will to in pull strive ";
        private static final String MORE_OWN_WORDS =
            "law legs rain habit tight walked day number there went far or and not all min max ";

        final int[] bytes = new int[MOST_BYTES];
        final int[] name = new int[NAME_LETTERS];
        int length = 0;
        int kind = END;
        int first = 0;
        int fault = 0;
        int faultAt = NONE;
        private final int[] kindOfByte = new int[256];
        private int behind = 0;

        Tape() {
            Arrays.fill(kindOfByte, SIGN);
            Arrays.fill(kindOfByte, 'a', 'z' + 1, WORD);
            Arrays.fill(kindOfByte, '0', '9' + 1, NUMBER);
            kindOfByte[10] = BLANK;
            kindOfByte[32] = BLANK;
        }

        void put(int number) {
            for (int shift = 24; shift >= 0 && length < MOST_BYTES; shift -= 8) {
                bytes[length] = (number >>> shift) & 255;
                length++;
            }
        }

        int byteAt(int k) {
            return k >= 0 && k < length ? bytes[k] : NONE;
        }

        void start() {
            fault = 0;
            faultAt = NONE;
            kind = END;
            behind = 0;
            advance();
        }

        void advance() {
            int from = behind;
            boolean needsBlank = kind == WORD || kind == NUMBER;
            int k = from;
            while (k < length && kindOfByte[bytes[k]] == BLANK) {
                k++;
            }
            first = k;
            kind = END;
            if (k < length) {
                kind = kindOfByte[bytes[k]];
                k++;
            }
            boolean runs = kind == WORD || kind == NUMBER;
            while (runs && k < length && kindOfByte[bytes[k]] == kind) {
                k++;
            }
            behind = k;
            if (runs && needsBlank && first == from) {
                kind = STUCK;
            }
        }

        boolean fail(int what, int place) {
            fault = what;
            faultAt = place;
            return false;
        }

        boolean failHere() {
            fault = WRONG_BYTE;
            faultAt = first;
            return false;
        }

        boolean isSign(char sign) {
            return kind == SIGN && first < length && bytes[first] == sign;
        }

        boolean isWord(String word) {
            if (kind != WORD || behind - first != word.length()) {
                return false;
            }
            for (int k = first; k < behind; k++) {
                if (word.charAt(k - first) != bytes[k]) {
                    return false;
                }
            }
            return true;
        }

        boolean takeSign(char sign) {
            if (!isSign(sign)) {
                return failHere();
            }
            advance();
            return true;
        }

        boolean takeWord(String word) {
            if (!isWord(word)) {
                return failHere();
            }
            advance();
            return true;
        }

        /** NONE with a fault. */
        int takeNumber(int least, int most) {
            int value = 0;
            if (kind != NUMBER) {
                failHere();
                return NONE;
            }
            if (behind - first > NUMBER_DIGITS) {
                fail(WRONG_BYTE, first + NUMBER_DIGITS);
                return NONE;
            }
            for (int k = first; k < behind; k++) {
                value = value * 10 + bytes[k] - '0';
            }
            if (value < least || value > most) {
                fail(WRONG_NUMBER, first);
                return NONE;
            }
            advance();
            return value;
        }

        /** Whether a name stands here, spelt in the row of that name then; if not, that is the fault. */
        boolean spellsName() {
            if (kind != WORD || isOneOf(OWN_WORDS) || isOneOf(MORE_OWN_WORDS)) {
                return failHere();
            }
            if (behind - first > NAME_LETTERS) {
                return fail(WRONG_BYTE, first + NAME_LETTERS);
            }
            for (int k = 0; k < NAME_LETTERS; k++) {
                name[k] = first + k < behind ? bytes[first + k] - 'a' + 1 : 0;
            }
            return true;
        }

        // Each of the words has a blank behind it.
        private boolean isOneOf(String words) {
            int alike = 0;
            for (int k = 0; k < words.length(); k++) {
                char sign = words.charAt(k);
                if (sign == ' ') {
                    if (alike == behind - first) {
                        return true;
                    }
                    alike = 0;
                } else if (alike != NONE && first + alike < behind && bytes[first + alike] == sign) {
                    alike++;
                } else {
                    alike = NONE;
                }
            }
            return false;
        }
    }

    /** Names of one sort, in the order in which they were told. */
    private static final class Names {
        int count = 0;
        private final int most;
        private final int[] letters;

        Names(int most) {
            this.most = most;
            this.letters = new int[most * NAME_LETTERS];
        }

        boolean holds(int which) {
            return which >= 0 && which < count;
        }

        boolean isFull() {
            return count >= most;
        }

        int letterOf(int which, int k) {
            return holds(which) && k >= 0 && k < NAME_LETTERS ? letters[which * NAME_LETTERS + k] : NONE;
        }

        void add(int[] name) {
            if (!isFull()) {
                System.arraycopy(name, 0, letters, count * NAME_LETTERS, NAME_LETTERS);
                count++;
            }
        }

        int find(int[] name) {
            for (int which = 0; which < count; which++) {
                int k = 0;
                while (k < NAME_LETTERS && letters[which * NAME_LETTERS + k] == name[k]) {
                    k++;
                }
                if (k == NAME_LETTERS) {
                    return which;
                }
            }
            return NONE;
        }
    }

    /** A SUM or a TEST as code: operands first, then what is done with them. */
    private static final class Formula {
        static final int DEEPEST = 64;
        static final int LIMIT = 1000000;

        final int[] code = new int[MOST_BYTES];
        final int[] stack = new int[DEEPEST];
        int size = 0;

        void add(int it) {
            if (size < MOST_BYTES) {
                code[size] = it;
                size++;
            }
        }

        int valueOf(int[] facts, Land land) {
            int top = 0;
            for (int k = 0; k < size; k++) {
                int it = code[k];
                if (it < ADD) {
                    if (top < DEEPEST) {
                        stack[top] = operand(it, facts);
                        top++;
                    }
                } else if (it == NOT || it == FAR) {
                    if (top > 0) {
                        int a = stack[top - 1];
                        stack[top - 1] = it == FAR ? land.milesBetween(facts[AT_FACT], a) : 1 - a;
                    }
                } else if (top > 1) {
                    top--;
                    stack[top - 1] = joined(it, stack[top - 1], stack[top]);
                }
            }
            return top > 0 ? stack[top - 1] : 0;
        }

        private static int operand(int it, int[] facts) {
            int fact = it - FACT_CODES;
            if (fact < 0) {
                return it;
            }
            return fact < FACTS ? facts[fact] : 0;
        }

        // A fact that holds is 1, one that does not is 0.
        private static int joined(int act, int a, int b) {
            switch (act) {
                case SUBTRACT: return Math.max(-LIMIT, Math.min(LIMIT, a - b));
                case MULTIPLY: return (int) Math.max(-LIMIT, Math.min(LIMIT, (long) a * b));
                case DIVIDE: return b == 0 ? 0 : Math.floorDiv(a, b);
                case LEAST: return Math.min(a, b);
                case GREATEST: return Math.max(a, b);
                case BELOW: return a < b ? 1 : 0;
                case ABOVE: return a > b ? 1 : 0;
                case LIKE: return a == b ? 1 : 0;
                case AND: return a & b;
                case OR: return a | b;
                default: return Math.max(-LIMIT, Math.min(LIMIT, a + b));
            }
        }
    }

    /** Reads SUMS and QUESTIONS from the tape into formulas. */
    private static final class Grammar {
        static final int FIRST = 0;
        static final int LAST = 1;
        static final int OFTEN = 2;
        static final int TOTAL = 3;
        static final int MOST = 4;
        static final int LEAST_OF_ALL = 5;

        // How tightly a level binds: each is a chain of the one below it.
        private static final int OR_LEVEL = 0;
        private static final int AND_LEVEL = 1;
        private static final int FACT_LEVEL = 2;
        private static final int SUM_LEVEL = 3;
        private static final int PRODUCT_LEVEL = 4;
        private static final int PART_LEVEL = 5;

        private final Tape tape;
        private Formula code = null;
        private boolean asking = false;

        Grammar(Tape tape) {
            this.tape = tape;
        }

        /** The SUM behind the word that stands here. */
        boolean readSum(Formula into) {
            tape.advance();
            begin(into, false);
            return read(SUM_LEVEL, 0);
        }

        /** Which question it is; NONE with a fault. */
        int readQuestion(Formula into) {
            tape.start();
            int kind = questionWord();
            if (kind == NONE) {
                tape.failHere();
                return NONE;
            }
            tape.advance();
            begin(into, true);
            if (!read(kind <= OFTEN ? OR_LEVEL : SUM_LEVEL, 0)) {
                return NONE;
            }
            if (tape.kind != Tape.END) {
                tape.failHere();
                return NONE;
            }
            return kind;
        }

        private void begin(Formula into, boolean asks) {
            into.size = 0;
            code = into;
            asking = asks;
        }

        private int questionWord() {
            if (tape.isWord("first")) {
                return FIRST;
            }
            if (tape.isWord("last")) {
                return LAST;
            }
            if (tape.isWord("often")) {
                return OFTEN;
            }
            if (tape.isWord("total")) {
                return TOTAL;
            }
            if (tape.isWord("most")) {
                return MOST;
            }
            return tape.isWord("least") ? LEAST_OF_ALL : NONE;
        }

        private boolean write(int it) {
            if (code != null) {
                code.add(it);
            }
            return true;
        }

        private boolean read(int level, int open) {
            if (level == FACT_LEVEL) {
                return readFact(open);
            }
            if (level >= PART_LEVEL) {
                return readPart(open);
            }
            if (!read(level + 1, open)) {
                return false;
            }
            for (int n = 0; n < MOST_BYTES; n++) {
                int act = joint(level);
                if (act == NONE) {
                    return true;
                }
                tape.advance();
                if (!read(level + 1, open)) {
                    return false;
                }
                write(act);
            }
            return true;
        }

        private int joint(int level) {
            if (level == OR_LEVEL) {
                return tape.isWord("or") ? OR : NONE;
            }
            if (level == AND_LEVEL) {
                return tape.isWord("and") ? AND : NONE;
            }
            if (level == SUM_LEVEL) {
                return tape.isSign('+') ? ADD : tape.isSign('-') ? SUBTRACT : NONE;
            }
            return tape.isSign('*') ? MULTIPLY : tape.isSign('/') ? DIVIDE : NONE;
        }

        private boolean readFact(int open) {
            if (tape.isWord("not")) {
                return opens(open) && read(FACT_LEVEL, open + 1) && write(NOT);
            }
            if (tape.isSign('[')) {
                return opens(open) && read(OR_LEVEL, open + 1) && tape.takeSign(']');
            }
            if (tape.isWord("all")) {
                tape.advance();
                return write(1);
            }
            return readComparison(open);
        }

        private boolean readComparison(int open) {
            if (!read(SUM_LEVEL, open)) {
                return false;
            }
            int act = tape.isSign('<') ? BELOW : tape.isSign('>') ? ABOVE : tape.isSign('=') ? LIKE : NONE;
            if (act == NONE) {
                return tape.failHere();
            }
            tape.advance();
            return read(SUM_LEVEL, open) && write(act);
        }

        private boolean readPart(int open) {
            if (tape.kind == Tape.NUMBER) {
                int value = tape.takeNumber(0, MOST_NUMBER);
                return value != NONE && write(value);
            }
            if (tape.isSign('(')) {
                return opens(open) && read(SUM_LEVEL, open + 1) && tape.takeSign(')');
            }
            if (tape.isWord("min")) {
                return readChoice(LEAST, open);
            }
            if (tape.isWord("max")) {
                return readChoice(GREATEST, open);
            }
            if (asking && tape.isWord("far")) {
                return opens(open) && read(PART_LEVEL, open + 1) && write(FAR);
            }
            int fact = namedFact();
            if (fact == NONE && asking) {
                fact = askedFact();
            }
            if (fact == NONE) {
                return tape.failHere();
            }
            tape.advance();
            return write(FACT_CODES + fact);
        }

        private boolean readChoice(int act, int open) {
            tape.advance();
            if (!tape.isSign('(')) {
                return tape.failHere();
            }
            return opens(open) && read(SUM_LEVEL, open + 1) && tape.takeSign(',')
                && read(SUM_LEVEL, open + 1) && tape.takeSign(')') && write(act);
        }

        private boolean opens(int open) {
            if (open >= MOST_OPEN) {
                return tape.fail(TOO_DEEP, tape.first);
            }
            tape.advance();
            return true;
        }

        private int namedFact() {
            if (tape.isWord("habit")) {
                return HABIT_FACT;
            }
            if (tape.isWord("tight")) {
                return TIGHT_FACT;
            }
            if (tape.isWord("walked")) {
                return WALKED_FACT;
            }
            if (tape.isWord("will")) {
                return WILL_FACT;
            }
            return tape.isWord("day") ? DAY_FACT : NONE;
        }

        private int askedFact() {
            if (tape.isWord("number")) {
                return NUMBER_FACT;
            }
            if (tape.isWord("size")) {
                return SIZE_FACT;
            }
            if (tape.isWord("went")) {
                return WENT_FACT;
            }
            return tape.isWord("there") ? THERE_FACT : NONE;
        }
    }

    /** A land as its text tells it. */
    private static final class Land {
        private static final int NO_WAY = 1000;

        final Names places = new Names(MOST_PLACES);
        final Names pairs = new Names(MOST_PAIRS);
        final Names walkers = new Names(MOST_WALKERS);
        final int[] road = new int[MOST_PLACES * MOST_PLACES];
        final int[] way = new int[MOST_PLACES * MOST_PLACES];
        final int[] step = new int[MOST_PLACES * MOST_PLACES];
        final int[] pairSize = new int[MOST_PAIRS];
        final int[] pairPulls = new int[MOST_PAIRS];
        final int[] pairHabit = new int[MOST_PAIRS];
        final int[] walkerSize = new int[MOST_WALKERS];
        final int[] walkerWill = new int[MOST_WALKERS];
        final int[] walkerGoal = new int[MOST_WALKERS];
        final int[] walkerPair = new int[MOST_WALKERS];
        final Formula pull = new Formula();
        final Formula strive = new Formula();
        int statements = 0;
        int roads = 0;
        int law = 0;
        int legs = 3;
        int rain = 0;

        void clear() {
            places.count = 0;
            pairs.count = 0;
            walkers.count = 0;
            pull.size = 0;
            strive.size = 0;
            statements = 0;
            roads = 0;
            law = 0;
            legs = 3;
            rain = 0;
            Arrays.fill(road, NO_WAY);
        }

        void addRoad(int from, int to, int miles) {
            road[from * MOST_PLACES + to] = miles;
            road[to * MOST_PLACES + from] = miles;
            roads++;
        }

        boolean hasRoad(int from, int to) {
            return road[from * MOST_PLACES + to] != NO_WAY;
        }

        int tightness(int walker, int pair) {
            return Math.abs(pairSize[pair] - walkerSize[walker]);
        }

        boolean isWorn(int pair) {
            for (int walker = 0; walker < walkers.count; walker++) {
                if (walkerPair[walker] == pair) {
                    return true;
                }
            }
            return false;
        }

        void complete() {
            if (pull.size == 0) {
                pull.add(FACT_CODES + HABIT_FACT);
            }
            if (strive.size == 0) {
                strive.add(FACT_CODES + WILL_FACT);
            }
            measureWays();
            for (int from = 0; from < places.count; from++) {
                for (int to = 0; to < places.count; to++) {
                    step[from * MOST_PLACES + to] = firstStep(from, to);
                }
            }
        }

        private void measureWays() {
            System.arraycopy(road, 0, way, 0, way.length);
            for (int place = 0; place < places.count; place++) {
                way[place * MOST_PLACES + place] = 0;
            }
            for (int by = 0; by < places.count; by++) {
                for (int from = 0; from < places.count; from++) {
                    for (int to = 0; to < places.count; to++) {
                        int miles = way[from * MOST_PLACES + by] + way[by * MOST_PLACES + to];
                        int k = from * MOST_PLACES + to;
                        way[k] = Math.min(way[k], miles);
                    }
                }
            }
        }

        private int firstStep(int from, int to) {
            int miles = way[from * MOST_PLACES + to];
            if (from == to || miles >= NO_WAY) {
                return NONE;
            }
            for (int by = 0; by < places.count; by++) {
                if (road[from * MOST_PLACES + by] + way[by * MOST_PLACES + to] == miles) {
                    return by;
                }
            }
            return NONE;
        }

        int milesBetween(int from, int to) {
            int many = places.count;
            if (from < 0 || from >= many || to < 0 || to >= many) {
                return NONE;
            }
            int miles = way[from * MOST_PLACES + to];
            return miles >= NO_WAY ? NONE : miles;
        }

        int stepTowards(int from, int to) {
            return places.holds(from) && places.holds(to) ? step[from * MOST_PLACES + to] : NONE;
        }
    }

    /** Reads a land's statements from the tape. */
    private static final class Teller {
        private final Tape tape;
        private final Grammar grammar;

        Teller(Tape tape, Grammar grammar) {
            this.tape = tape;
            this.grammar = grammar;
        }

        boolean read(Land land) {
            land.clear();
            tape.start();
            for (int n = 0; n < MOST_STATEMENTS && tape.kind != Tape.END; n++) {
                if (!readStatement(land) || !tape.takeSign(';')) {
                    return false;
                }
                land.statements++;
            }
            if (tape.kind != Tape.END) {
                return tooMany();
            }
            land.complete();
            return true;
        }

        private boolean readStatement(Land land) {
            if (tape.isWord("place")) {
                return land.places.isFull() ? tooMany() : readPlace(land);
            }
            if (tape.isWord("road")) {
                return land.roads >= MOST_ROADS ? tooMany() : readRoad(land);
            }
            if (tape.isWord("pair")) {
                return land.pairs.isFull() ? tooMany() : readPair(land);
            }
            if (tape.isWord("walker")) {
                return land.walkers.isFull() ? tooMany() : readWalker(land);
            }
            if (tape.isWord("pull")) {
                return land.pull.size > 0 ? tooMany() : grammar.readSum(land.pull);
            }
            if (tape.isWord("strive")) {
                return land.strive.size > 0 ? tooMany() : grammar.readSum(land.strive);
            }
            return readSetting(land);
        }

        private boolean tooMany() {
            return tape.fail(TOO_MANY, tape.first);
        }

        private boolean readPlace(Land land) {
            tape.advance();
            return takeNew(land, land.places);
        }

        private boolean readRoad(Land land) {
            tape.advance();
            int from = knownName(land.places);
            if (from == NONE) {
                return false;
            }
            tape.advance();
            int to = knownName(land.places);
            if (to == NONE) {
                return false;
            }
            if (from == to || land.hasRoad(from, to)) {
                return tape.fail(WRONG_NAME, tape.first);
            }
            tape.advance();
            int miles = numberBehind("miles", 1, 9);
            if (miles == NONE) {
                return false;
            }
            land.addRoad(from, to, miles);
            return true;
        }

        private boolean readPair(Land land) {
            int pair = land.pairs.count;
            tape.advance();
            if (!takeNew(land, land.pairs)) {
                return false;
            }
            int size = numberBehind("size", 1, MOST_SIZE);
            if (size == NONE || !tape.takeWord("pulls")) {
                return false;
            }
            int pulls = knownName(land.places);
            if (pulls == NONE) {
                return false;
            }
            tape.advance();
            int habit = numberBehind("by", 0, MOST_HABIT);
            if (habit == NONE) {
                return false;
            }
            land.pairSize[pair] = size;
            land.pairPulls[pair] = pulls;
            land.pairHabit[pair] = habit;
            return true;
        }

        private boolean readWalker(Land land) {
            int walker = land.walkers.count;
            land.walkerPair[walker] = NONE;
            tape.advance();
            if (!takeNew(land, land.walkers)) {
                return false;
            }
            int size = numberBehind("size", 1, MOST_SIZE);
            if (size == NONE) {
                return false;
            }
            int will = numberBehind("will", 0, MOST_WILL);
            if (will == NONE || !tape.takeWord("to")) {
                return false;
            }
            int goal = knownName(land.places);
            if (goal == NONE) {
                return false;
            }
            tape.advance();
            if (!tape.takeWord("in")) {
                return false;
            }
            int pair = knownName(land.pairs);
            if (pair == NONE) {
                return false;
            }
            if (land.isWorn(pair)) {
                return tape.fail(WRONG_NAME, tape.first);
            }
            tape.advance();
            land.walkerSize[walker] = size;
            land.walkerWill[walker] = will;
            land.walkerGoal[walker] = goal;
            land.walkerPair[walker] = pair;
            return true;
        }

        private boolean readSetting(Land land) {
            if (tape.isWord("law")) {
                land.law = numberBehind("law", 0, MOST_LAW);
                return land.law != NONE;
            }
            if (tape.isWord("legs")) {
                land.legs = numberBehind("legs", 1, 9);
                return land.legs != NONE;
            }
            if (tape.isWord("rain")) {
                land.rain = numberBehind("rain", 0, MOST_RAIN);
                return land.rain != NONE;
            }
            return tape.failHere();
        }

        private int numberBehind(String word, int least, int most) {
            return tape.takeWord(word) ? tape.takeNumber(least, most) : NONE;
        }

        private boolean takeNew(Land land, Names names) {
            if (!tape.spellsName()) {
                return false;
            }
            int[] name = tape.name;
            if (land.places.find(name) != NONE || land.pairs.find(name) != NONE || land.walkers.find(name) != NONE) {
                return tape.fail(WRONG_NAME, tape.first);
            }
            names.add(name);
            tape.advance();
            return true;
        }

        // The name stays the tape's word, so that its place can still be told as a fault.
        private int knownName(Names names) {
            if (!tape.spellsName()) {
                return NONE;
            }
            int which = names.find(tape.name);
            if (which == NONE) {
                tape.fail(WRONG_NAME, tape.first);
            }
            return which;
        }
    }

    /** All that acts change. */
    private static final class State {
        final int[] habit = new int[MOST_PAIRS];
        final int[] wears = new int[MOST_WALKERS];
        final int[] at = new int[MOST_WALKERS];
        final int[] walked = new int[MOST_WALKERS];
        final int[] shelf = new int[MOST_PAIRS];
        int shelfCount = 0;
        int day = 0;
        int law = 0;

        void setFrom(State other) {
            System.arraycopy(other.habit, 0, habit, 0, MOST_PAIRS);
            System.arraycopy(other.wears, 0, wears, 0, MOST_WALKERS);
            System.arraycopy(other.at, 0, at, 0, MOST_WALKERS);
            System.arraycopy(other.walked, 0, walked, 0, MOST_WALKERS);
            System.arraycopy(other.shelf, 0, shelf, 0, MOST_PAIRS);
            shelfCount = other.shelfCount;
            day = other.day;
            law = other.law;
        }

        void beginIn(Land land) {
            day = 0;
            law = land.law;
            shelfCount = 0;
            for (int walker = 0; walker < land.walkers.count; walker++) {
                wears[walker] = land.walkerPair[walker];
                at[walker] = NONE;
                walked[walker] = 0;
            }
            for (int pair = 0; pair < land.pairs.count; pair++) {
                habit[pair] = land.pairHabit[pair];
                if (!land.isWorn(pair)) {
                    putOnShelf(pair);
                }
            }
        }

        int wearerOf(int pair, int walkers) {
            for (int walker = 0; walker < walkers; walker++) {
                if (wears[walker] == pair) {
                    return walker;
                }
            }
            return NONE;
        }

        private void putOnShelf(int pair) {
            if (shelfCount < MOST_PAIRS) {
                shelf[shelfCount] = pair;
                shelfCount++;
            }
        }

        private int takeOffShelf(int k) {
            int pair = shelf[k];
            shelfCount--;
            for (int j = k; j < shelfCount; j++) {
                shelf[j] = shelf[j + 1];
            }
            return pair;
        }

        /** Where on the shelf the pair stands that a law hands out. */
        int choiceFor(Land land, int walker, int byLaw) {
            if (shelfCount == 0) {
                return NONE;
            }
            int best = 0;
            if (byLaw == 2) {
                return best;
            }
            for (int k = 1; k < shelfCount; k++) {
                int nearer = land.tightness(walker, shelf[best]) - land.tightness(walker, shelf[k]);
                if (nearer > 0 || nearer == 0 && byLaw == 1) {
                    best = k;
                }
            }
            return best;
        }

        int takeAcross(Land land, int walker, int byLaw) {
            int k = choiceFor(land, walker, byLaw);
            if (k == NONE) {
                return NONE;
            }
            int pair = takeOffShelf(k);
            putOnShelf(wears[walker]);
            wears[walker] = pair;
            at[walker] = FRONTIER;
            walked[walker] = 0;
            return pair;
        }

        int bringHome(int walker) {
            // An image can leave the shelf empty: then the pair given back is the one taken again.
            int given = wears[walker];
            if (shelfCount > 0) {
                wears[walker] = takeOffShelf(0);
                putOnShelf(given);
            }
            at[walker] = NONE;
            walked[walker] = 0;
            return wears[walker];
        }

        int writeTo(int[] bytes, Land land) {
            int n = putTwo(bytes, 0, day);
            n = putOne(bytes, n, law);
            for (int pair = 0; pair < land.pairs.count; pair++) {
                n = putOne(bytes, n, habit[pair]);
            }
            for (int walker = 0; walker < land.walkers.count; walker++) {
                n = putOne(bytes, n, wears[walker]);
                n = putOne(bytes, n, at[walker] + 1);
                n = putTwo(bytes, n, walked[walker]);
            }
            for (int k = 0; k < shelfCount; k++) {
                n = putOne(bytes, n, shelf[k]);
            }
            int check = 103;
            for (int k = 0; k < n; k++) {
                check = (3 * check + bytes[k]) % 251;
            }
            return putOne(bytes, n, check);
        }

        private static int putOne(int[] bytes, int n, int value) {
            if (n < bytes.length) {
                bytes[n] = value;
            }
            return n + 1;
        }

        private static int putTwo(int[] bytes, int n, int value) {
            return putOne(bytes, putOne(bytes, n, value / 256), value % 256);
        }

        /** Whether the tape is an image of the land; only then this state is to be used. */
        boolean readFrom(Tape tape, Land land) {
            int pairs = land.pairs.count;
            int walkers = land.walkers.count;
            shelfCount = pairs - walkers;
            int last = 3 + pairs + 4 * walkers + shelfCount;
            if (tape.length != last + 1 || !isChecked(tape, last)) {
                return false;
            }
            day = twoBytes(tape, 0);
            law = tape.byteAt(2);
            if (day > MOST_DAY || law > MOST_LAW) {
                return false;
            }
            for (int pair = 0; pair < pairs; pair++) {
                habit[pair] = tape.byteAt(3 + pair);
                if (habit[pair] > MOST_HABIT) {
                    return false;
                }
            }
            for (int walker = 0; walker < walkers; walker++) {
                if (!readWalkerFrom(tape, 3 + pairs + 4 * walker, walker, land.places.count)) {
                    return false;
                }
            }
            for (int k = 0; k < shelfCount; k++) {
                shelf[k] = tape.byteAt(3 + pairs + 4 * walkers + k);
            }
            return hasEachOnce(pairs, walkers);
        }

        private static boolean isChecked(Tape tape, int last) {
            int check = 103;
            for (int k = 0; k < last; k++) {
                check = (3 * check + tape.byteAt(k)) % 251;
            }
            return tape.byteAt(last) == check;
        }

        private static int twoBytes(Tape tape, int k) {
            return tape.byteAt(k) * 256 + tape.byteAt(k + 1);
        }

        private boolean readWalkerFrom(Tape tape, int k, int walker, int places) {
            wears[walker] = tape.byteAt(k);
            at[walker] = tape.byteAt(k + 1) - 1;
            walked[walker] = twoBytes(tape, k + 2);
            if (at[walker] >= places || walked[walker] > MOST_WALKED) {
                return false;
            }
            return at[walker] != NONE || walked[walker] == 0;
        }

        // As many pairs are told as there are, so it is enough that each of them is told at all.
        private boolean hasEachOnce(int pairs, int walkers) {
            for (int pair = 0; pair < pairs; pair++) {
                boolean told = wearerOf(pair, walkers) != NONE;
                for (int k = 0; k < shelfCount; k++) {
                    told = told || shelf[k] == pair;
                }
                if (!told) {
                    return false;
                }
            }
            return true;
        }
    }

    /** Walks legs and days in a state, by the land's laws. */
    private static final class Feet {
        final int[] facts = new int[FACTS];
        Land land = null;

        boolean isThere(State state, int walker) {
            return land != null && state.at[walker] == land.walkerGoal[walker];
        }

        int howManyThere(State state) {
            int many = 0;
            for (int walker = 0; land != null && walker < land.walkers.count; walker++) {
                if (isThere(state, walker)) {
                    many++;
                }
            }
            return many;
        }

        void walkDay(State state, int walker) {
            if (land == null || state.at[walker] == NONE) {
                return;
            }
            int will = land.walkerWill[walker];
            for (int leg = 0; leg < land.legs && !isThere(state, walker); leg++) {
                walkLeg(state, walker, state.wears[walker], will);
            }
        }

        void walkLeg(State state, int walker, int pair, int will) {
            if (land == null) {
                return;
            }
            int byWill = land.stepTowards(state.at[walker], land.walkerGoal[walker]);
            int byPull = land.stepTowards(state.at[walker], land.pairPulls[pair]);
            if (byPull == NONE) {
                state.at[walker] = byWill == NONE ? state.at[walker] : byWill;
            } else if (byWill == NONE || byWill == byPull || isPulled(state, walker, pair, will)) {
                state.at[walker] = byPull;
                state.habit[pair] = Math.min(MOST_HABIT, state.habit[pair] + 1);
            } else {
                state.at[walker] = byWill;
                state.habit[pair] = Math.max(0, state.habit[pair] - 1);
            }
            state.walked[walker] = Math.min(MOST_WALKED, state.walked[walker] + 1);
        }

        private boolean isPulled(State state, int walker, int pair, int will) {
            facts[WILL_FACT] = will;
            facts[HABIT_FACT] = state.habit[pair];
            facts[TIGHT_FACT] = land.tightness(walker, pair);
            facts[WALKED_FACT] = state.walked[walker];
            facts[DAY_FACT] = state.day;
            return land.pull.valueOf(facts, land) > land.strive.valueOf(facts, land);
        }

        /** What a question can ask of a walker as he is. */
        void lookAt(State state, int walker) {
            if (land == null) {
                return;
            }
            int pair = state.wears[walker];
            facts[NUMBER_FACT] = walker;
            facts[SIZE_FACT] = land.walkerSize[walker];
            facts[WILL_FACT] = land.walkerWill[walker];
            facts[HABIT_FACT] = state.habit[pair];
            facts[TIGHT_FACT] = land.tightness(walker, pair);
            facts[WALKED_FACT] = state.walked[walker];
            facts[DAY_FACT] = state.day;
            facts[WENT_FACT] = state.at[walker] == NONE ? 0 : 1;
            facts[THERE_FACT] = isThere(state, walker) ? 1 : 0;
            facts[AT_FACT] = state.at[walker] == NONE ? FRONTIER : state.at[walker];
        }
    }

    /** Follows a walker who is tried in shoes, and leaves the state as it is. */
    private static final class Trials {
        final int[] path = new int[TRIED_LEGS + 1];
        private final State trial = new State();
        private final Feet feet;

        Trials(Feet feet) {
            this.feet = feet;
        }

        /** In how many legs he is there, or NONE; the first pair pulls in legs of even numbers. */
        int follow(State now, int walker, int first, int second, int will) {
            int there = NONE;
            trial.setFrom(now);
            trial.at[walker] = FRONTIER;
            trial.walked[walker] = 0;
            for (int leg = 0; leg <= TRIED_LEGS; leg++) {
                path[leg] = trial.at[walker];
                if (there == NONE && feet.isThere(trial, walker)) {
                    there = leg;
                }
                if (there == NONE) {
                    feet.walkLeg(trial, walker, leg % 2 == 0 ? first : second, will);
                }
            }
            return there;
        }
    }

    /** Looks for the row of pairs by which most arrive. */
    private static final class Dealer {
        final int[] best = new int[MOST_WALKERS];
        int bestThere = 0;
        private final int[] row = new int[MOST_WALKERS];
        private final int[] legs = new int[MOST_WALKERS * MOST_PAIRS];
        private int bestLegs = 0;
        private int walkers = 0;

        void findBest(State now, Land land, Trials trials) {
            walkers = land.walkers.count;
            Arrays.fill(legs, NONE);
            for (int walker = 0; walker < walkers; walker++) {
                for (int k = 0; now.at[walker] == NONE && k < now.shelfCount; k++) {
                    int pair = now.shelf[k];
                    int will = land.walkerWill[walker];
                    legs[walker * MOST_PAIRS + pair] = trials.follow(now, walker, pair, pair, will);
                }
            }
            bestThere = NONE;
            bestLegs = 0;
            give(0, 0, 0, 0);
        }

        // Rows come in their order, and a pair in which one does not arrive is never better than none.
        private void give(int walker, int given, int there, int together) {
            if (walker >= walkers || walker >= MOST_WALKERS) {
                keepIfBetter(there, together);
                return;
            }
            row[walker] = NONE;
            give(walker + 1, given, there, together);
            for (int pair = 0; pair < MOST_PAIRS; pair++) {
                int taken = legs[walker * MOST_PAIRS + pair];
                if (taken != NONE && (given >> pair & 1) == 0) {
                    row[walker] = pair;
                    give(walker + 1, given | 1 << pair, there + 1, together + taken);
                }
            }
        }

        private void keepIfBetter(int there, int together) {
            if (there > bestThere || there == bestThere && together < bestLegs) {
                bestThere = there;
                bestLegs = together;
                System.arraycopy(row, 0, best, 0, MOST_WALKERS);
            }
        }
    }

    /** What is seen, and who in which shoes it can have been. */
    private static final class Footprints {
        int rows = 0;
        int left = 0;
        int walkersLeft = 0;
        int pairsLeft = 0;
        private final int[] rowLeg = new int[MOST_ROWS];
        private final int[] rowPlace = new int[MOST_ROWS];
        // For each leg and place, how many of those left are there then.
        private final int[] together = new int[(TRIED_LEGS + 1) * MOST_PLACES];

        boolean takeRows(Tape tape, int places) {
            int many = tape.length / 2;
            if (tape.length % 2 != 0 || many < 1 || many > MOST_ROWS) {
                return false;
            }
            for (int k = 0; k < many; k++) {
                if (tape.byteAt(2 * k) > TRIED_LEGS || tape.byteAt(2 * k + 1) >= places) {
                    return false;
                }
            }
            for (int k = 0; k < many; k++) {
                rowLeg[k] = tape.byteAt(2 * k);
                rowPlace[k] = tape.byteAt(2 * k + 1);
            }
            rows = many;
            return true;
        }

        void compare(State now, Land land, Trials trials) {
            left = 0;
            walkersLeft = 0;
            pairsLeft = 0;
            Arrays.fill(together, 0);
            for (int walker = 0; walker < land.walkers.count; walker++) {
                for (int pair = 0; pair < land.pairs.count; pair++) {
                    trials.follow(now, walker, pair, pair, land.walkerWill[walker]);
                    if (isSeenOn(trials.path)) {
                        left++;
                        walkersLeft |= 1 << walker;
                        pairsLeft |= 1 << pair;
                        gather(trials.path);
                    }
                }
            }
        }

        private boolean isSeenOn(int[] path) {
            for (int k = 0; k < rows; k++) {
                if (path[rowLeg[k]] != rowPlace[k]) {
                    return false;
                }
            }
            return true;
        }

        private void gather(int[] path) {
            for (int leg = 0; leg <= TRIED_LEGS; leg++) {
                together[leg * MOST_PLACES + path[leg]]++;
            }
        }

        int mostLeftBy(int leg) {
            int most = 0;
            for (int place = 0; place < MOST_PLACES; place++) {
                most = Math.max(most, together[leg * MOST_PLACES + place]);
            }
            return most;
        }

        int tellingLeg() {
            int best = 0;
            for (int leg = 1; leg <= TRIED_LEGS; leg++) {
                if (mostLeftBy(leg) < mostLeftBy(best)) {
                    best = leg;
                }
            }
            return best;
        }
    }
}
