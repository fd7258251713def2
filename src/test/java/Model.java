import java.util.ArrayList;
import java.util.Arrays;
import java.util.HashSet;
import java.util.List;
import java.util.Set;
import java.util.TreeMap;

/**
 * The document written down a second time, as plainly as it can be, with the whole Java library:
 * trees instead of code, copies instead of scratch rows, every row of a deal instead of the likely ones.
 */
final class Model {
    static final int NONE = -1;
    static final long NOTHING = -1000000000000000L;
    static final Set<String> OWN = new HashSet<>(Arrays.asList(("place road miles pair size pulls by walker will to in "
        + "pull strive law legs rain habit tight walked day number there went far or and not all min max").split(" ")));

    static final class Fault extends Exception {
        private static final long serialVersionUID = 1L;
        final int code;
        final int place;

        Fault(int code, int place) {
            this.code = code;
            this.place = place;
        }
    }

    /** A node of a SUM or a TEST. */
    static final class Node {
        final String act;
        final int number;
        final Node left;
        final Node right;

        Node(String act, int number, Node left, Node right) {
            this.act = act;
            this.number = number;
            this.left = left;
            this.right = right;
        }
    }

    static final class Pair {
        String name;
        int size;
        int pulls;
        int habit;
    }

    static final class Walker {
        String name;
        int size;
        int will;
        int goal;
        int pair;
    }

    static final class Land {
        List<String> places = new ArrayList<>();
        List<int[]> roads = new ArrayList<>();
        List<Pair> pairs = new ArrayList<>();
        List<Walker> walkers = new ArrayList<>();
        Node pull;
        Node strive;
        int law = 0;
        int legs = 3;
        int rain = 0;
        int statements = 0;

        boolean named(String name) {
            return places.contains(name) || pairNamed(name) >= 0 || walkers.stream().anyMatch(w -> name.equals(w.name));
        }

        int pairNamed(String name) {
            for (int k = 0; k < pairs.size(); k++) {
                if (pairs.get(k).name.equals(name)) {
                    return k;
                }
            }
            return NONE;
        }

        int milesOf(int a, int b) {
            for (int[] r : roads) {
                if (r[0] == a && r[1] == b || r[0] == b && r[1] == a) {
                    return r[2];
                }
            }
            return NONE;
        }

        /** Every way without a place twice; the best by miles, then by its places' numbers. */
        List<Integer> way(int from, int to) {
            List<Integer> best = null;
            int bestMiles = 0;
            List<List<Integer>> open = new ArrayList<>();
            open.add(new ArrayList<>(List.of(from)));
            while (!open.isEmpty()) {
                List<Integer> row = open.remove(open.size() - 1);
                int last = row.get(row.size() - 1);
                if (last == to) {
                    int miles = length(row);
                    if (best == null || miles < bestMiles || miles == bestMiles && isAhead(row, best)) {
                        best = row;
                        bestMiles = miles;
                    }
                    continue;
                }
                for (int p = 0; p < places.size(); p++) {
                    if (milesOf(last, p) > 0 && !row.contains(p)) {
                        List<Integer> more = new ArrayList<>(row);
                        more.add(p);
                        open.add(more);
                    }
                }
            }
            return best;
        }

        int length(List<Integer> row) {
            int sum = 0;
            for (int k = 1; k < row.size(); k++) {
                sum += milesOf(row.get(k - 1), row.get(k));
            }
            return sum;
        }

        static boolean isAhead(List<Integer> a, List<Integer> b) {
            for (int k = 0; k < a.size() && k < b.size(); k++) {
                if (!a.get(k).equals(b.get(k))) {
                    return a.get(k) < b.get(k);
                }
            }
            return false;
        }

        private final TreeMap<Integer, Integer> nexts = new TreeMap<>();

        int next(int from, int to) {
            return nexts.computeIfAbsent(from * 100 + to, k -> {
                List<Integer> row = way(from, to);
                return row == null || row.size() < 2 ? NONE : row.get(1);
            });
        }
    }

    static final class State implements Cloneable {
        int day;
        int law;
        int[] habit;
        int[] wears;
        int[] at;
        int[] walked;
        List<Integer> shelf;

        State copy() {
            State s = new State();
            s.day = day;
            s.law = law;
            s.habit = habit.clone();
            s.wears = wears.clone();
            s.at = at.clone();
            s.walked = walked.clone();
            s.shelf = new ArrayList<>(shelf);
            return s;
        }
    }

    /** The text's bytes and where its reading is. */
    static final class Reader {
        final int[] t;
        int at = 0;
        boolean asking;

        Reader(List<Integer> tape, boolean asking) {
            t = tape.stream().mapToInt(x -> x).toArray();
            this.asking = asking;
        }

        boolean letter(int k) {
            return k >= 0 && k < t.length && t[k] >= 97 && t[k] <= 122;
        }

        boolean digit(int k) {
            return k >= 0 && k < t.length && t[k] >= 48 && t[k] <= 57;
        }

        void blanks() {
            while (at < t.length && (t[at] == 32 || t[at] == 10)) {
                at++;
            }
        }

        Fault wrong() {
            return new Fault(1, at);
        }

        /** The word that begins here, "" if none does or it lacks its blank. */
        String peekWord() {
            blanks();
            if (!letter(at) || letter(at - 1) || digit(at - 1)) {
                return "";
            }
            StringBuilder b = new StringBuilder();
            for (int k = at; letter(k); k++) {
                b.append((char) t[k]);
            }
            return b.toString();
        }

        boolean peekNumber() {
            blanks();
            return digit(at) && !letter(at - 1) && !digit(at - 1);
        }

        boolean peekSign(char c) {
            blanks();
            return at < t.length && t[at] == c;
        }

        void sign(char c) throws Fault {
            if (!peekSign(c)) {
                throw wrong();
            }
            at++;
        }

        void word(String w) throws Fault {
            if (!peekWord().equals(w)) {
                throw wrong();
            }
            at += w.length();
        }

        int number(int least, int most) throws Fault {
            if (!peekNumber()) {
                throw wrong();
            }
            int from = at;
            int value = 0;
            while (digit(at)) {
                if (at - from == 4) {
                    throw wrong();
                }
                value = value * 10 + t[at] - 48;
                at++;
            }
            if (value < least || value > most) {
                throw new Fault(2, from);
            }
            return value;
        }

        String name() throws Fault {
            String w = peekWord();
            if (w.isEmpty() || OWN.contains(w)) {
                throw wrong();
            }
            if (w.length() > 6) {
                throw new Fault(1, at + 6);
            }
            at += w.length();
            return w;
        }

        Node test(int open) throws Fault {
            Node left = both(open);
            while (peekWord().equals("or")) {
                word("or");
                left = new Node("or", 0, left, both(open));
            }
            return left;
        }

        Node both(int open) throws Fault {
            Node left = fact(open);
            while (peekWord().equals("and")) {
                word("and");
                left = new Node("and", 0, left, fact(open));
            }
            return left;
        }

        void deeper(int open) throws Fault {
            if (open == 6) {
                throw new Fault(4, at);
            }
        }

        Node fact(int open) throws Fault {
            String w = peekWord();
            if (w.equals("not")) {
                deeper(open);
                word("not");
                return new Node("not", 0, fact(open + 1), null);
            }
            if (w.equals("all")) {
                word("all");
                return new Node("all", 0, null, null);
            }
            if (peekSign('[')) {
                deeper(open);
                sign('[');
                Node in = test(open + 1);
                sign(']');
                return in;
            }
            Node left = sum(open);
            for (char c : "<>=".toCharArray()) {
                if (peekSign(c)) {
                    sign(c);
                    return new Node("" + c, 0, left, sum(open));
                }
            }
            throw wrong();
        }

        Node sum(int open) throws Fault {
            Node left = product(open);
            while (peekSign('+') || peekSign('-')) {
                String act = "" + (char) t[at++];
                left = new Node(act, 0, left, product(open));
            }
            return left;
        }

        Node product(int open) throws Fault {
            Node left = part(open);
            while (peekSign('*') || peekSign('/')) {
                String act = "" + (char) t[at++];
                left = new Node(act, 0, left, part(open));
            }
            return left;
        }

        Node part(int open) throws Fault {
            if (peekNumber()) {
                return new Node("n", number(0, 9999), null, null);
            }
            if (peekSign('(')) {
                deeper(open);
                sign('(');
                Node in = sum(open + 1);
                sign(')');
                return in;
            }
            String w = peekWord();
            if (w.equals("min") || w.equals("max")) {
                word(w);
                if (!peekSign('(')) {
                    throw wrong();
                }
                deeper(open);
                sign('(');
                Node a = sum(open + 1);
                sign(',');
                Node b = sum(open + 1);
                sign(')');
                return new Node(w, 0, a, b);
            }
            if (asking && w.equals("far")) {
                deeper(open);
                word("far");
                return new Node("far", 0, part(open + 1), null);
            }
            String words = asking ? "number size will habit tight walked day went there" : "habit tight walked will day";
            if (!Arrays.asList(words.split(" ")).contains(w)) {
                throw wrong();
            }
            word(w);
            return new Node(w, 0, null, null);
        }
    }

    List<Integer> tape = new ArrayList<>();
    Land land = new Land();
    State now = first(land);
    List<State> past = new ArrayList<>();
    List<int[]> seen = new ArrayList<>();
    int[] image = new int[0];
    long seed = 1;
    int[] refused = new int[6];
    int fault = 0;
    int faultAt = NONE;

    static State first(Land land) {
        State s = new State();
        s.law = land.law;
        s.habit = land.pairs.stream().mapToInt(p -> p.habit).toArray();
        s.wears = land.walkers.stream().mapToInt(w -> w.pair).toArray();
        s.at = new int[s.wears.length];
        Arrays.fill(s.at, NONE);
        s.walked = new int[s.wears.length];
        s.shelf = new ArrayList<>();
        for (int p = 0; p < s.habit.length; p++) {
            int pair = p;
            if (Arrays.stream(s.wears).noneMatch(x -> x == pair)) {
                s.shelf.add(p);
            }
        }
        return s;
    }

    int refuse(int what) {
        refused[what]++;
        return NONE;
    }

    int feed(int... five) {
        if (tape.size() + 20 > 1600) {
            return refuse(0);
        }
        for (int x : five) {
            for (int k = 3; k >= 0; k--) {
                tape.add(x >> 8 * k & 255);
            }
        }
        return tape.size();
    }

    boolean end(int n) {
        if (n < 0 || n > tape.size()) {
            refuse(0);
            return false;
        }
        tape = new ArrayList<>(tape.subList(0, n));
        return true;
    }

    int land() {
        Reader r = new Reader(tape, false);
        tape.clear();
        fault = 0;
        faultAt = NONE;
        try {
            land = told(r);
        } catch (Fault f) {
            fault = f.code;
            faultAt = f.place;
            return refuse(1);
        }
        now = first(land);
        past.clear();
        seen.clear();
        return land.statements;
    }

    static Land told(Reader r) throws Fault {
        Land land = new Land();
        r.blanks();
        while (r.at < r.t.length) {
            if (land.statements == 80) {
                throw new Fault(5, r.at);
            }
            statement(r, land);
            r.sign(';');
            land.statements++;
            r.blanks();
        }
        return land;
    }

    static String fresh(Reader r, Land land) throws Fault {
        String name = r.name();
        if (land.named(name)) {
            throw new Fault(3, r.at - name.length());
        }
        return name;
    }

    static int place(Reader r, Land land) throws Fault {
        String name = r.name();
        int p = land.places.indexOf(name);
        if (p < 0) {
            throw new Fault(3, r.at - name.length());
        }
        return p;
    }

    static void statement(Reader r, Land land) throws Fault {
        String w = r.peekWord();
        boolean full = w.equals("place") && land.places.size() == 7 || w.equals("road") && land.roads.size() == 12
            || w.equals("pair") && land.pairs.size() == 8 || w.equals("walker") && land.walkers.size() == 6
            || w.equals("pull") && land.pull != null || w.equals("strive") && land.strive != null;
        if (full) {
            throw new Fault(5, r.at);
        }
        if (!Arrays.asList("place", "road", "pair", "walker", "pull", "strive", "law", "legs", "rain").contains(w)) {
            throw r.wrong();
        }
        r.word(w);
        switch (w) {
            case "place" -> land.places.add(fresh(r, land));
            case "road" -> road(r, land);
            case "pair" -> {
                Pair p = new Pair();
                p.name = fresh(r, land);
                r.word("size");
                p.size = r.number(1, 50);
                r.word("pulls");
                p.pulls = place(r, land);
                r.word("by");
                p.habit = r.number(0, 9);
                land.pairs.add(p);
            }
            case "walker" -> walker(r, land);
            case "pull" -> land.pull = r.sum(0);
            case "strive" -> land.strive = r.sum(0);
            case "law" -> land.law = r.number(0, 2);
            case "legs" -> land.legs = r.number(1, 9);
            default -> land.rain = r.number(0, 100);
        }
    }

    static void road(Reader r, Land land) throws Fault {
        int a = place(r, land);
        r.blanks();
        int from = r.at;
        int b = place(r, land);
        if (a == b || land.milesOf(a, b) > 0) {
            throw new Fault(3, from);
        }
        r.word("miles");
        land.roads.add(new int[] {a, b, r.number(1, 9)});
    }

    static void walker(Reader r, Land land) throws Fault {
        Walker w = new Walker();
        w.name = fresh(r, land);
        r.word("size");
        w.size = r.number(1, 50);
        r.word("will");
        w.will = r.number(0, 99);
        r.word("to");
        w.goal = place(r, land);
        r.word("in");
        String name = r.name();
        w.pair = land.pairNamed(name);
        if (w.pair < 0 || land.walkers.stream().anyMatch(x -> x.pair == w.pair)) {
            throw new Fault(3, r.at - name.length());
        }
        land.walkers.add(w);
    }

    int fault(int what) {
        return what == 0 ? fault : what == 1 ? faultAt : NONE;
    }

    boolean there(State s, int w) {
        return s.at[w] == land.walkers.get(w).goal;
    }

    int countThere(State s) {
        int n = 0;
        for (int w = 0; w < s.at.length; w++) {
            n += there(s, w) ? 1 : 0;
        }
        return n;
    }

    int has(int what) {
        int[] all = {land.places.size(), land.roads.size(), land.pairs.size(), land.walkers.size(), now.day, now.law,
            now.shelf.size(), (int) Arrays.stream(now.at).filter(x -> x >= 0).count(), countThere(now), seen.size(),
            past.size()};
        return what >= 0 && what < all.length ? all[what] : NONE;
    }

    int letter(int kind, int which, int k) {
        List<String> names = kind == 0 ? land.places : kind == 1 ? land.pairs.stream().map(p -> p.name).toList()
            : kind == 2 ? land.walkers.stream().map(w -> w.name).toList() : List.of();
        if (which < 0 || which >= names.size() || k < 0 || k > 5) {
            return NONE;
        }
        String name = names.get(which);
        return k < name.length() ? name.charAt(k) - 96 : 0;
    }

    boolean isPlace(int p) {
        return p >= 0 && p < land.places.size();
    }

    boolean isPair(int p) {
        return p >= 0 && p < land.pairs.size();
    }

    boolean isWalker(int w) {
        return w >= 0 && w < land.walkers.size();
    }

    int miles(int from, int to) {
        if (!isPlace(from) || !isPlace(to)) {
            return NONE;
        }
        List<Integer> way = land.way(from, to);
        return way == null ? NONE : land.length(way);
    }

    int next(int from, int to) {
        return isPlace(from) && isPlace(to) ? land.next(from, to) : NONE;
    }

    int pair(int p, int what) {
        if (!isPair(p) || what < 0 || what > 3) {
            return NONE;
        }
        Pair it = land.pairs.get(p);
        int wearer = NONE;
        for (int w = 0; w < now.wears.length; w++) {
            wearer = now.wears[w] == p ? w : wearer;
        }
        return new int[] {it.size, it.pulls, now.habit[p], wearer}[what];
    }

    int walker(int w, int what) {
        if (!isWalker(w) || what < 0 || what > 6) {
            return NONE;
        }
        Walker it = land.walkers.get(w);
        return new int[] {it.size, it.will, it.goal, now.wears[w], now.at[w], now.walked[w], there(now, w) ? 1 : 0}[what];
    }

    int shelf(int k) {
        return k >= 0 && k < now.shelf.size() ? now.shelf.get(k) : NONE;
    }

    int tight(int w, int p) {
        return Math.abs(land.walkers.get(w).size - land.pairs.get(p).size);
    }

    int handed(State s, int w, int law) {
        List<Integer> row = new ArrayList<>(s.shelf);
        if (law == 2) {
            return row.get(0);
        }
        int nearest = row.stream().mapToInt(p -> tight(w, p)).min().getAsInt();
        row.removeIf(p -> tight(w, p) != nearest);
        return row.get(law == 0 ? 0 : row.size() - 1);
    }

    int gets(int w) {
        return isWalker(w) && now.at[w] == NONE && !now.shelf.isEmpty() ? handed(now, w, now.law) : NONE;
    }

    int crossing(State s, int w, int law) {
        int p = handed(s, w, law);
        s.shelf.remove((Integer) p);
        s.shelf.add(s.wears[w]);
        s.wears[w] = p;
        s.at[w] = 0;
        s.walked[w] = 0;
        return p;
    }

    static long limit(long x) {
        return Math.max(-1000000, Math.min(1000000, x));
    }

    /** What a SUM sees of one. */
    interface Eye {
        int see(String word);

        int far(long place);
    }

    static long value(Node n, Eye eye) {
        if (n.left == null) {
            return n.act.equals("n") ? n.number : eye.see(n.act);
        }
        long a = value(n.left, eye);
        if (n.act.equals("far")) {
            return eye.far(a);
        }
        long b = value(n.right, eye);
        return switch (n.act) {
            case "+" -> limit(a + b);
            case "-" -> limit(a - b);
            case "*" -> limit(a * b);
            case "/" -> b == 0 ? 0 : (long) Math.floor((double) a / (double) b);
            case "min" -> Math.min(a, b);
            default -> Math.max(a, b);
        };
    }

    static boolean holds(Node n, Eye eye) {
        return switch (n.act) {
            case "all" -> true;
            case "not" -> !holds(n.left, eye);
            case "or" -> holds(n.left, eye) || holds(n.right, eye);
            case "and" -> holds(n.left, eye) && holds(n.right, eye);
            case "<" -> value(n.left, eye) < value(n.right, eye);
            case ">" -> value(n.left, eye) > value(n.right, eye);
            default -> value(n.left, eye) == value(n.right, eye);
        };
    }

    Eye eye(State s, int w, int p, int will) {
        return new Eye() {
            @Override
            public int see(String word) {
                return switch (word) {
                    case "number" -> w;
                    case "size" -> land.walkers.get(w).size;
                    case "will" -> will;
                    case "habit" -> s.habit[p];
                    case "tight" -> tight(w, p);
                    case "walked" -> s.walked[w];
                    case "day" -> s.day;
                    case "went" -> s.at[w] == NONE ? 0 : 1;
                    default -> there(s, w) ? 1 : 0;
                };
            }

            @Override
            public int far(long place) {
                return place < 0 || place > 6 ? NONE : miles(Math.max(0, s.at[w]), (int) place);
            }
        };
    }

    void leg(State s, int w, int p, int will) {
        int byWill = land.next(s.at[w], land.walkers.get(w).goal);
        int byPull = land.next(s.at[w], land.pairs.get(p).pulls);
        Eye eye = eye(s, w, p, will);
        long pull = land.pull == null ? s.habit[p] : value(land.pull, eye);
        long strive = land.strive == null ? will : value(land.strive, eye);
        boolean pulled;
        if (byWill == NONE) {
            pulled = byPull != NONE;
        } else if (byPull == NONE) {
            pulled = false;
        } else {
            pulled = byPull != byWill && pull > strive;
        }
        int to = pulled ? byPull : byWill;
        if (to != NONE && byPull != NONE) {
            int change = pulled || byPull == byWill ? 1 : -1;
            s.habit[p] = Math.max(0, Math.min(9, s.habit[p] + change));
        }
        if (to != NONE) {
            s.at[w] = to;
        }
        s.walked[w] = Math.min(999, s.walked[w] + 1);
    }

    void legsOfDay(State s, int w) {
        for (int k = 0; k < land.legs && s.at[w] != NONE && !there(s, w); k++) {
            leg(s, w, s.wears[w], land.walkers.get(w).will);
        }
    }

    void day(State s) {
        for (int w = 0; w < s.at.length; w++) {
            legsOfDay(s, w);
        }
        s.day++;
    }

    /** Where he is behind 0, 1, .. legs, no more of them than he walks until he is there. */
    List<Integer> tried(int w, int first, int second, int will) {
        State s = now.copy();
        s.at[w] = 0;
        s.walked[w] = 0;
        List<Integer> row = new ArrayList<>(List.of(0));
        while (row.size() <= 30 && !there(s, w)) {
            leg(s, w, row.size() % 2 == 1 ? first : second, will);
            row.add(s.at[w]);
        }
        return row;
    }

    int legsOf(int w, List<Integer> row) {
        return row.get(row.size() - 1) == land.walkers.get(w).goal ? row.size() - 1 : NONE;
    }

    int tries(int w, int p) {
        return isWalker(w) && isPair(p) ? legsOf(w, tried(w, p, p, land.walkers.get(w).will)) : NONE;
    }

    int where(int w, int p, int legs) {
        if (!isWalker(w) || !isPair(p) || legs < 0 || legs > 30) {
            return NONE;
        }
        List<Integer> row = tried(w, p, p, land.walkers.get(w).will);
        return row.get(Math.min(legs, row.size() - 1));
    }

    int firm(int w, int p) {
        for (int will = 0; isWalker(w) && isPair(p) && will <= 99; will++) {
            if (legsOf(w, tried(w, p, p, will)) != NONE) {
                return will;
            }
        }
        return NONE;
    }

    int odd(int w, int a, int b) {
        if (!isWalker(w) || !isPair(a) || !isPair(b) || a == b) {
            return NONE;
        }
        return legsOf(w, tried(w, a, b, land.walkers.get(w).will));
    }

    int deal(int w) {
        int[] row = new int[land.walkers.size()];
        Arrays.fill(row, NONE);
        int[][] best = {null, {NONE, 0}};
        int[][] legs = new int[row.length][land.pairs.size()];
        for (int k = 0; k < row.length; k++) {
            for (int p : now.shelf) {
                legs[k][p] = tries(k, p);
            }
        }
        dealOn(0, row, best, legs);
        if (w == NONE) {
            return best[1][0];
        }
        return isWalker(w) && now.at[w] == NONE ? best[0][w] : NONE;
    }

    private void dealOn(int w, int[] row, int[][] best, int[][] legs) {
        if (w == row.length) {
            int there = 0;
            int sum = 0;
            for (int k = 0; k < row.length; k++) {
                if (row[k] != NONE && legs[k][row[k]] != NONE) {
                    there++;
                    sum += legs[k][row[k]];
                }
            }
            if (there > best[1][0] || there == best[1][0] && sum < best[1][1]) {
                best[0] = row.clone();
                best[1] = new int[] {there, sum};
            }
            return;
        }
        for (int p = NONE; p < land.pairs.size(); p++) {
            int pair = p;
            boolean free = now.at[w] == NONE && now.shelf.contains(p) && Arrays.stream(row).noneMatch(x -> x == pair);
            if (p == NONE || free) {
                row[w] = p;
                dealOn(w + 1, row, best, legs);
                row[w] = NONE;
            }
        }
    }

    int lawed(int law) {
        if (law < 0 || law > 2) {
            return NONE;
        }
        State s = now.copy();
        int n = 0;
        for (int w = 0; w < s.at.length; w++) {
            if (now.at[w] == NONE && !s.shelf.isEmpty()) {
                n += tries(w, crossing(s, w, law)) == NONE ? 0 : 1;
            }
        }
        return n;
    }

    State ahead(int n) {
        State s = now.copy();
        for (int k = 0; k < n; k++) {
            day(s);
        }
        return s;
    }

    int later(int w, int n, int what) {
        if (!isWalker(w) || n < 0 || n > 60 || now.day + n > 999 || what < 0 || what > 2) {
            return NONE;
        }
        State s = ahead(n);
        return new int[] {s.at[w], s.walked[w], s.habit[s.wears[w]]}[what];
    }

    int arrives(int w) {
        for (int n = 0; isWalker(w) && n <= 60 && now.day + n <= 999; n++) {
            if (there(ahead(n), w)) {
                return n;
            }
        }
        return NONE;
    }

    int see() {
        List<Integer> t = new ArrayList<>(tape);
        tape.clear();
        boolean sound = t.size() % 2 == 0 && !t.isEmpty() && t.size() <= 32;
        for (int k = 0; k + 1 < t.size(); k += 2) {
            sound &= t.get(k) <= 30 && isPlace(t.get(k + 1));
        }
        if (!sound) {
            return refuse(1);
        }
        seen.clear();
        for (int k = 0; k < t.size(); k += 2) {
            seen.add(new int[] {t.get(k), t.get(k + 1)});
        }
        return seen.size();
    }

    List<int[]> left(List<int[]> rows) {
        List<int[]> left = new ArrayList<>();
        for (int w = 0; w < land.walkers.size(); w++) {
            for (int p = 0; p < land.pairs.size(); p++) {
                boolean all = true;
                for (int[] row : rows) {
                    all &= where(w, p, row[0]) == row[1];
                }
                if (all) {
                    left.add(new int[] {w, p});
                }
            }
        }
        return left;
    }

    int prints(int what) {
        List<int[]> left = left(seen);
        int walkers = 0;
        int pairs = 0;
        for (int[] one : left) {
            walkers |= 1 << one[0];
            pairs |= 1 << one[1];
        }
        return what == 0 ? left.size() : what == 1 ? walkers : what == 2 ? pairs : NONE;
    }

    int tells(int what) {
        List<int[]> left = left(seen);
        if (left.isEmpty() || what < 0 || what > 1) {
            return NONE;
        }
        int best = NONE;
        int bestMost = 0;
        for (int leg = 0; leg <= 30; leg++) {
            int most = 0;
            for (int place = 0; place < land.places.size(); place++) {
                int many = 0;
                for (int[] one : left) {
                    many += where(one[0], one[1], leg) == place ? 1 : 0;
                }
                most = Math.max(most, many);
            }
            if (best == NONE || most < bestMost) {
                best = leg;
                bestMost = most;
            }
        }
        return what == 0 ? best : bestMost;
    }

    void remember() {
        past.add(now.copy());
        if (past.size() > 20) {
            past.remove(0);
        }
    }

    int cross(int w) {
        if (gets(w) == NONE) {
            return refuse(2);
        }
        remember();
        return crossing(now, w, now.law);
    }

    int back(int w) {
        if (!isWalker(w) || now.at[w] == NONE) {
            return refuse(2);
        }
        remember();
        now.shelf.add(now.wears[w]);
        now.wears[w] = now.shelf.remove(0);
        now.at[w] = NONE;
        now.walked[w] = 0;
        return now.wears[w];
    }

    boolean law(int law) {
        if (law == now.law || law < 0 || law > 2) {
            refuse(2);
            return false;
        }
        remember();
        now.law = law;
        return true;
    }

    int days(int n) {
        if (n < 1 || n > 100 || now.day + n > 999) {
            return refuse(3);
        }
        remember();
        int before = countThere(now);
        now = ahead(n);
        return countThere(now) - before;
    }

    int chance(int n) {
        if (n < 1 || n > 100 || now.day + n > 999) {
            return refuse(3);
        }
        remember();
        int wet = 0;
        for (int k = 0; k < n; k++) {
            boolean[] rains = new boolean[now.at.length];
            for (int w = 0; w < rains.length; w++) {
                if (now.at[w] != NONE) {
                    seed = (1103515245L * seed + 12345) % (1L << 31);
                    rains[w] = seed / 64 % 100 < land.rain;
                    wet += rains[w] ? 1 : 0;
                }
            }
            for (int w = 0; w < rains.length; w++) {
                if (!rains[w]) {
                    legsOfDay(now, w);
                }
            }
            now.day++;
        }
        return wet;
    }

    boolean undo() {
        if (past.isEmpty()) {
            refuse(4);
            return false;
        }
        now = past.remove(past.size() - 1);
        return true;
    }

    boolean seed(int s) {
        if (s < 0) {
            refuse(5);
            return false;
        }
        seed = s;
        return true;
    }

    long ask() {
        Reader r = new Reader(tape, true);
        tape.clear();
        fault = 0;
        faultAt = NONE;
        try {
            return answer(r);
        } catch (Fault f) {
            fault = f.code;
            faultAt = f.place;
            return NOTHING;
        }
    }

    long answer(Reader r) throws Fault {
        String w = r.peekWord();
        boolean test = List.of("first", "last", "often").contains(w);
        if (!test && !List.of("total", "most", "least").contains(w)) {
            throw r.wrong();
        }
        r.word(w);
        Node n = test ? r.test(0) : r.sum(0);
        r.blanks();
        if (r.at < r.t.length) {
            throw r.wrong();
        }
        List<Integer> who = new ArrayList<>();
        List<Long> values = new ArrayList<>();
        for (int k = 0; k < land.walkers.size(); k++) {
            Eye eye = eye(now, k, now.wears[k], land.walkers.get(k).will);
            if (test && holds(n, eye)) {
                who.add(k);
            }
            if (!test) {
                values.add(value(n, eye));
            }
        }
        return switch (w) {
            case "first" -> who.isEmpty() ? NONE : who.get(0);
            case "last" -> who.isEmpty() ? NONE : who.get(who.size() - 1);
            case "often" -> who.size();
            case "total" -> values.stream().mapToLong(x -> x).sum();
            case "most" -> values.stream().mapToLong(x -> x).max().orElse(0);
            default -> values.stream().mapToLong(x -> x).min().orElse(0);
        };
    }

    int image() {
        List<Integer> b = new ArrayList<>(List.of(now.day >> 8, now.day & 255, now.law));
        Arrays.stream(now.habit).forEach(b::add);
        for (int w = 0; w < now.at.length; w++) {
            b.addAll(List.of(now.wears[w], now.at[w] + 1, now.walked[w] >> 8, now.walked[w] & 255));
        }
        b.addAll(now.shelf);
        b.add(check(b));
        image = b.stream().mapToInt(x -> x).toArray();
        return image.length;
    }

    static int check(List<Integer> b) {
        int c = 103;
        for (int x : b) {
            c = (3 * c + x) % 251;
        }
        return c;
    }

    int octet(int k) {
        return k >= 0 && k < image.length ? image[k] : NONE;
    }

    boolean on() {
        List<Integer> t = new ArrayList<>(tape);
        tape.clear();
        State s = told(t);
        if (s == null) {
            refuse(5);
            return false;
        }
        now = s;
        past.clear();
        return true;
    }

    State told(List<Integer> t) {
        State s = now.copy();
        if (t.size() != 4 + s.habit.length + 4 * s.at.length + s.shelf.size()) {
            return null;
        }
        if (check(t.subList(0, t.size() - 1)) != t.get(t.size() - 1)) {
            return null;
        }
        int k = 0;
        s.day = t.get(k++) * 256 + t.get(k++);
        s.law = t.get(k++);
        boolean sound = s.day <= 999 && s.law <= 2;
        for (int p = 0; p < s.habit.length; p++) {
            s.habit[p] = t.get(k++);
            sound &= s.habit[p] <= 9;
        }
        Set<Integer> pairs = new HashSet<>();
        for (int w = 0; w < s.at.length; w++) {
            s.wears[w] = t.get(k++);
            s.at[w] = t.get(k++) - 1;
            s.walked[w] = t.get(k++) * 256 + t.get(k++);
            sound &= pairs.add(s.wears[w]) && isPair(s.wears[w]) && s.walked[w] <= 999;
            sound &= s.at[w] == NONE ? s.walked[w] == 0 : isPlace(s.at[w]);
        }
        for (int j = 0; j < s.shelf.size(); j++) {
            s.shelf.set(j, t.get(k++));
            sound &= pairs.add(s.shelf.get(j)) && isPair(s.shelf.get(j));
        }
        return sound ? s : null;
    }

    int status(int what) {
        return what >= 0 && what < 6 ? refused[what] : NONE;
    }
}
