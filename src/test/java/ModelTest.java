import java.util.Arrays;
import java.util.Random;

/** Long random runs of calls, each answer compared with the model's. */
public final class ModelTest {
    private static final int RUNS = 1500;
    private static final int CALLS = 480;

    private final Random chance;
    private final Tales tales;
    private final OthersShoes x = new OthersShoes();
    private final Model m = new Model();
    private final StringBuilder told = new StringBuilder();
    private int calls = 0;

    private ModelTest(int seed) {
        chance = new Random(seed);
        tales = new Tales(chance);
    }

    public static void main(String[] args) {
        for (int seed = 1; seed <= RUNS; seed++) {
            new ModelTest(seed).run();
        }
        for (int seed = 1; seed <= 40000; seed++) {
            new ModelTest(-seed).readTexts();
        }
        Checks.finish("ModelTest");
    }

    private void same(String call, long got, long want) {
        calls++;
        told.append(call).append(" = ").append(want).append('\n');
        Checks.due(call, got, want);
        if (got != want) {
            System.out.println("the run so far:\n" + told);
            System.exit(1);
        }
    }

    private void same(String call, boolean got, boolean want) {
        same(call, got ? 1 : 0, want ? 1 : 0);
    }

    private void feed(byte[] text) {
        for (int from = 0; from < text.length; from += 20) {
            int[] f = Checks.five(text, from);
            same("feed" + Arrays.toString(f), x.feed(f[0], f[1], f[2], f[3], f[4]), m.feed(f));
        }
        same("end(" + text.length + ")", x.end(text.length), m.end(text.length));
    }

    private void feedText(String text) {
        told.append("    text: ").append(text).append('\n');
        feed(Checks.bytes(text));
    }

    private void faults() {
        same("fault(0)", x.fault(0), m.fault(0));
        same("fault(1)", x.fault(1), m.fault(1));
    }

    private void land(String text) {
        feedText(text);
        same("land()", x.land(), m.land());
        faults();
    }

    private void ask(String text) {
        feedText(text);
        same("ask()", x.ask(), m.ask());
        faults();
    }

    private void readTexts() {
        String land = tales.land();
        String question = tales.question();
        for (int k = tales.upTo(1) - 1; k >= 0; k--) {
            land = tales.spoilt(land);
        }
        for (int k = tales.upTo(1); k >= 0; k--) {
            question = tales.spoilt(question);
        }
        if (land.length() <= 1600 && question.length() <= 1600) {
            land(tales.spoilt(land));
            ask(question);
        }
    }

    private void run() {
        land(tales.land());
        while (calls < CALLS) {
            if (tales.upTo(2) == 0) {
                act();
            } else {
                look();
            }
            if (tales.upTo(150) == 0) {
                land(tales.upTo(1) == 0 ? tales.land() : tales.spoilt(tales.land()));
            }
        }
    }

    private int some(int most) {
        return tales.upTo(most + 1) - (tales.upTo(9) == 0 ? 1 : 0);
    }

    private void act() {
        int w = some(m.land.walkers.size());
        int n = tales.upTo(2) == 0 ? some(101) : some(4);
        switch (tales.upTo(12)) {
            case 0: case 1: case 2: case 3: same("cross(" + w + ")", x.cross(w), m.cross(w)); break;
            case 4: same("back(" + w + ")", x.back(w), m.back(w)); break;
            case 5: same("law(" + (n % 4) + ")", x.law(n % 4), m.law(n % 4)); break;
            case 6: case 7: same("days(" + n + ")", x.days(n), m.days(n)); break;
            case 8: case 9: same("chance(" + n + ")", x.chance(n), m.chance(n)); break;
            case 10: same("undo()", x.undo(), m.undo()); break;
            case 11: {
                int seed = chance.nextInt();
                same("seed(" + seed + ")", x.seed(seed), m.seed(seed));
                break;
            }
            default: image();
        }
    }

    private void image() {
        same("image()", x.image(), m.image());
        for (int k = tales.upTo(3) == 0 ? 0 : m.image.length; k <= m.image.length; k++) {
            same("octet(" + k + ")", x.octet(k), m.octet(k));
        }
        int[] row = m.image.clone();
        int ahead = row.length - 1;
        for (int k = tales.upTo(2); k > 0; k--) {
            row[tales.upTo(ahead)] = tales.upTo(3) == 0 ? tales.upTo(255) : tales.upTo(9);
        }
        if (tales.upTo(4) == 0) {
            row[0] = 3;
            row[1] = 200 + tales.upTo(35);
        }
        if (tales.upTo(1) == 0) {
            for (int k = tales.upTo(3); k > 0 && ahead > 4; k--) {
                int a = 3 + tales.upTo(ahead - 4);
                int b = 3 + tales.upTo(ahead - 4);
                int it = row[a];
                row[a] = row[b];
                row[b] = it;
            }
        }
        int[] sound = tales.upTo(5) == 0 ? row : Checks.checked(Arrays.copyOf(row, ahead));
        told.append("    image: ").append(Arrays.toString(sound)).append('\n');
        feed(Checks.bytes(sound));
        same("on()", x.on(), m.on());
    }

    private void see() {
        byte[] rows = new byte[2 * (1 + tales.upTo(tales.upTo(5) == 0 ? 17 : 1)) + (tales.upTo(9) == 0 ? 1 : 0)];
        int w = some(m.land.walkers.size());
        int p = some(m.land.pairs.size());
        for (int k = 0; k + 1 < rows.length; k += 2) {
            rows[k] = (byte) tales.upTo(tales.upTo(20) == 0 ? 31 : 6);
            int seen = m.where(w, p, rows[k]);
            rows[k + 1] = (byte) (tales.upTo(9) == 0 ? tales.upTo(7) : Math.max(0, seen));
        }
        told.append("    rows: ").append(Arrays.toString(rows)).append('\n');
        feed(rows);
        same("see()", x.see(), m.see());
    }

    private void look() {
        int w = some(m.land.walkers.size());
        int p = some(m.land.pairs.size());
        int q = some(m.land.pairs.size());
        int a = some(m.land.places.size());
        int b = some(m.land.places.size());
        int n = some(11);
        int legs = tales.upTo(5) == 0 ? some(31) : some(8);
        int ahead = tales.upTo(3) == 0 ? some(61) : some(5);
        switch (tales.upTo(22)) {
            case 0: same("has(" + n + ")", x.has(n), m.has(n)); break;
            case 1: same("letter", x.letter(n % 4, w, legs), m.letter(n % 4, w, legs)); break;
            case 2: same("miles(" + a + "," + b + ")", x.miles(a, b), m.miles(a, b)); break;
            case 3: same("next(" + a + "," + b + ")", x.next(a, b), m.next(a, b)); break;
            case 4: same("pair(" + p + "," + n % 5 + ")", x.pair(p, n % 5), m.pair(p, n % 5)); break;
            case 5: same("walker(" + w + "," + n % 8 + ")", x.walker(w, n % 8), m.walker(w, n % 8)); break;
            case 6: same("shelf(" + p + ")", x.shelf(p), m.shelf(p)); break;
            case 7: same("gets(" + w + ")", x.gets(w), m.gets(w)); break;
            case 8: same("tries(" + w + "," + p + ")", x.tries(w, p), m.tries(w, p)); break;
            case 9: same("where(" + w + "," + p + "," + legs + ")", x.where(w, p, legs), m.where(w, p, legs)); break;
            case 10: same("firm(" + w + "," + p + ")", x.firm(w, p), m.firm(w, p)); break;
            case 11: same("odd(" + w + "," + p + "," + q + ")", x.odd(w, p, q), m.odd(w, p, q)); break;
            case 12: same("deal(-1)", x.deal(-1), m.deal(-1)); break;
            case 13: same("deal(" + w + ")", x.deal(w), m.deal(w)); break;
            case 14: same("lawed(" + n % 4 + ")", x.lawed(n % 4), m.lawed(n % 4)); break;
            case 15: same("later(" + w + "," + ahead + "," + n % 4 + ")", x.later(w, ahead, n % 4),
                m.later(w, ahead, n % 4)); break;
            case 16: same("arrives(" + w + ")", x.arrives(w), m.arrives(w)); break;
            case 17: see(); break;
            case 18: same("prints(" + n % 4 + ")", x.prints(n % 4), m.prints(n % 4)); break;
            case 19: same("tells(" + n % 3 + ")", x.tells(n % 3), m.tells(n % 3)); break;
            case 20: same("status(" + n % 7 + ")", x.status(n % 7), m.status(n % 7)); break;
            case 21: same("end(" + n + ")", x.end(n), m.end(n)); break;
            default: {
                String question = tales.question();
                ask(tales.upTo(4) == 0 ? tales.spoilt(question) : question);
            }
        }
    }
}
