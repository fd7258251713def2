import java.math.BigInteger;
import java.util.Arrays;

/** The boundaries of ACTS: promises 25 to 31, with what the document's terms, II, say of days, draws and what is undone. */
public final class ActsEdgesTest {
    private static final String LINE = "place a;place b;place c;place d;road a b miles 1;road b c miles 1;"
        + "road c d miles 1;pair p size 10 pulls d by 3;pair q size 20 pulls a by 0;pair o size 30 pulls b by 1;"
        + "pair n size 40 pulls b by 2;walker w size 12 will 5 to d in o;walker v size 21 will 5 to c in n;legs 1;";
    /** Nobody ever arrives, and nobody is refused. */
    private static final String STILL = "place a;place b;pair p size 1 pulls a by 7;pair o size 1 pulls a by 0;"
        + "walker w size 1 will 9 to b in o;legs 1;";

    private ActsEdgesTest() {
    }

    public static void main(String[] args) {
        crosses();
        givesBack();
        comesHome();
        anotherLaw();
        howManyDays();
        cameToBeThere();
        lastDay();
        byTheSeed();
        rain();
        drawsOf();
        undoes();
        undoesTwenty();
        undoesEach();
        seedIsKept();
        seeds();
        Checks.finish("ActsEdgesTest");
    }

    private static void refusedAct(OthersShoes x, int refused, int acts) {
        Checks.due("refused", x.status(2), refused);
        Checks.due("acts", x.has(10), acts);
    }

    private static void crosses() {
        Edges.says("A WALKER CROSSES: the PAIR he gets; NONE, refused (2), when he is not at HOME, the SHELF is empty, or there is none such.");
        OthersShoes x = Checks.in(LINE);
        Checks.due("w", x.cross(0), 0);
        refusedAct(x, 0, 1);
        Checks.due("w is not at home", x.cross(0), -1);
        refusedAct(x, 1, 1);
        Checks.due("nobody", x.cross(2), -1);
        refusedAct(x, 2, 1);
        Checks.due("nobody", x.cross(-1), -1);
        refusedAct(x, 3, 1);
        Checks.due("v, the last one", x.cross(1), 1);
        refusedAct(x, 3, 2);
        OthersShoes y = Checks.in("place a;" + Edges.pairs(1) + Edges.walkers(1));
        Checks.due("an empty shelf", y.cross(0), -1);
        refusedAct(y, 1, 0);
    }

    private static void givesBack() {
        Edges.says("A WALKER gives his PAIR back: the PAIR he wears then; NONE, refused (2), when he is at HOME, or there is none such.");
        OthersShoes x = Checks.in(LINE);
        Checks.due("at home", x.back(0), -1);
        refusedAct(x, 1, 0);
        Checks.due("nobody", x.back(2), -1);
        refusedAct(x, 2, 0);
        Checks.due("nobody", x.back(-1), -1);
        refusedAct(x, 3, 0);
        x.cross(0);
        Checks.due("from the frontier", x.back(0), 1);
        refusedAct(x, 3, 2);
        Checks.due("at home again", x.back(0), -1);
        refusedAct(x, 4, 2);
    }

    private static void comesHome() {
        Edges.says("one who has CROSSED gives his PAIR back (it comes onto the SHELF, behind all), is at HOME, has walked no leg, "
            + "is in the first PAIR of the SHELF then;");
        OthersShoes x = Checks.in(LINE);
        x.cross(0);
        x.days(2);
        Edges.shelf(x, 1, 2);
        Checks.due("the first one", x.back(0), 1);
        Edges.shelf(x, 2, 0);
        Checks.due("wears", x.walker(0, 3), 1);
        Checks.due("at home", x.walker(0, 4), -1);
        Checks.due("no leg", x.walker(0, 5), 0);
        Checks.due("the habit stays", x.pair(0, 2), 5);
        OthersShoes one = Checks.in(STILL);
        one.cross(0);
        Edges.shelf(one, 1);
        Checks.due("a shelf of one", one.back(0), 1);
        Edges.shelf(one, 0);
        // An image can tell of one who has crossed while the shelf is empty.
        OthersShoes none = Checks.in("place a;" + Edges.pairs(1) + Edges.walkers(1));
        Checks.due("on", Checks.on(none, Checks.checked(0, 0, 0, 1, 0, 1, 0, 7)), true);
        Edges.shelf(none);
        Checks.due("his own is the first one then", none.back(0), 0);
        Edges.shelf(none);
        Checks.due("at home", none.walker(0, 4), -1);
        Checks.due("no leg", none.walker(0, 5), 0);
    }

    private static void anotherLaw() {
        Edges.says("Another LAW (0 .. 2): true; false, refused (2), when it is that, or there is none such.");
        for (int from = 0; from <= 2; from++) {
            OthersShoes x = Checks.in("law " + from + ";");
            for (int law = -1; law <= 3; law++) {
                boolean due = law >= 0 && law <= 2 && law != from;
                Checks.due("law(" + law + ") from " + from, x.law(law), due);
                Checks.due("the law", x.has(5), due ? law : from);
                Checks.due("acts", x.has(10), due ? 1 : 0);
                if (due) {
                    x.undo();
                }
            }
            Checks.due("refused", x.status(2), 3);
        }
    }

    private static void howManyDays() {
        Edges.says("n DAYS (1 .. 100): how many came to be THERE in them; NONE, refused (3), when it can't be.");
        OthersShoes x = Checks.in(STILL);
        int[] cannot = {0, -1, 101, Integer.MAX_VALUE, Integer.MIN_VALUE};
        for (int k = 0; k < cannot.length; k++) {
            Checks.due("days(" + cannot[k] + ")", x.days(cannot[k]), -1);
            Checks.due("refused", x.status(3), k + 1);
        }
        Checks.due("the day stays", x.has(4), 0);
        Checks.due("no act", x.has(10), 0);
        Checks.due("days(1)", x.days(1), 0);
        Checks.due("day", x.has(4), 1);
        Checks.due("days(100)", x.days(100), 0);
        Checks.due("day", x.has(4), 101);
        Checks.due("one act each", x.has(10), 2);
        Checks.due("refused", x.status(3), cannot.length);
    }

    private static void cameToBeThere() {
        Edges.says("how many came to be THERE in them;");
        OthersShoes x = Checks.in(LINE);
        x.cross(0);
        x.cross(1);
        int[] came = {0, 1, 1, 0};
        for (int day = 0; day < 4; day++) {
            Checks.due("in day " + day, x.days(1), came[day]);
        }
        OthersShoes y = Checks.in(LINE);
        y.cross(0);
        y.cross(1);
        Checks.due("in two days", y.days(2), 1);
        y.undo();
        Checks.due("in three days", y.days(3), 2);
        OthersShoes z = Checks.in(LINE.replace("to c in n", "to a in n"));
        z.cross(1);
        Checks.due("v was there ahead of them", z.days(3), 0);
    }

    private static int[] day(int day) {
        return Checks.checked(day / 256, day % 256, 0, 7, 0, 0, 1, 0, 0, 1);
    }

    private static void lastDay() {
        Edges.says("the DAY is one more (999 at most).");
        OthersShoes x = Checks.in(STILL);
        Checks.due("on", Checks.on(x, day(998)), true);
        Checks.due("two days can't be", x.days(2), -1);
        Checks.due("nor by the seed", x.chance(2), -1);
        Checks.due("refused", x.status(3), 2);
        Checks.due("the day stays", x.has(4), 998);
        Checks.due("nobody walks", x.walker(0, 5), 0);
        Checks.due("one can", x.days(1), 0);
        Checks.due("day", x.has(4), 999);
        Checks.due("one leg", x.walker(0, 5), 1);
        Checks.due("no more", x.days(1), -1);
        Checks.due("no more", x.chance(1), -1);
        Checks.due("refused", x.status(3), 4);
        Checks.due("on", Checks.on(x, day(899)), true);
        Checks.due("a hundred can", x.chance(100), 0);
        Checks.due("day", x.has(4), 999);
        Checks.due("on", Checks.on(x, day(900)), true);
        Checks.due("a hundred can't", x.chance(100), -1);
        Checks.due("a hundred can't", x.days(100), -1);
        Checks.due("99 can", x.days(99), 0);
    }

    private static void byTheSeed() {
        Edges.says("n DAYS by the seed (1 .. 100), one ACT: how often one walked none for the rain; NONE, refused (3), when it can't be.");
        OthersShoes x = Checks.in(STILL + "rain 100;");
        x.cross(0);
        int[] cannot = {0, -1, 101, Integer.MAX_VALUE, Integer.MIN_VALUE};
        for (int k = 0; k < cannot.length; k++) {
            Checks.due("chance(" + cannot[k] + ")", x.chance(cannot[k]), -1);
            Checks.due("refused", x.status(3), k + 1);
        }
        Checks.due("the day stays", x.has(4), 0);
        Checks.due("acts", x.has(10), 1);
        Checks.due("chance(1)", x.chance(1), 1);
        Checks.due("chance(100)", x.chance(100), 100);
        Checks.due("day", x.has(4), 101);
        Checks.due("one act each", x.has(10), 3);
        x.undo();
        Checks.due("undone whole", x.has(4), 1);
    }

    // The draws of 100 from the seed 1 on are 18, 99, 26, 80, 16, 14.
    private static void rain() {
        Edges.says("DAYS by the seed: ahead of each for each WALKER who has CROSSED a DRAW of 100: below rain he walks none in it.");
        for (int rain = 17; rain <= 20; rain++) {
            OthersShoes x = Checks.in(LINE + "rain " + rain + ";");
            x.cross(0);
            Checks.due("18 against " + rain, x.chance(1), rain > 18 ? 1 : 0);
            Checks.due("legs", x.walker(0, 5), rain > 18 ? 0 : 1);
            Checks.due("the day comes", x.has(4), 1);
        }
        OthersShoes x = Checks.in(LINE + "rain 27;");
        x.cross(1);
        Checks.due("v alone: 18, 99", x.chance(2), 1);
        Checks.due("v walked", x.walker(1, 5), 1);
        x.cross(0);
        Checks.due("w 26, v 80", x.chance(1), 1);
        Checks.due("w", x.walker(0, 5), 0);
        Checks.due("v", x.walker(1, 5), 2);
        Checks.due("w 16, v, who is there, 14", x.chance(1), 2);
        OthersShoes home = Checks.in(LINE + "rain 19;");
        Checks.due("nobody has crossed, so no draw", home.chance(3), 0);
        home.cross(0);
        Checks.due("the first one is 18", home.chance(1), 1);
        home.days(1);
        Checks.due("days draw none: 99", home.chance(1), 0);
        OthersShoes always = Checks.in(LINE + "rain 100;");
        always.cross(0);
        Checks.due("99 is below 100", always.chance(2), 2);
        OthersShoes never = Checks.in(LINE + "rain 0;");
        never.cross(0);
        Checks.due("none is below 0", never.chance(100), 0);
    }

    private static void drawsOf() {
        Edges.says("A DRAW of m: x (the seed) becomes (1103515245 x + 12345) mod 2 to the 31; floor(x / 64) mod m.");
        int[] seeds = {0, 1, 2, 63, 64, 1000, 1103527590, 2147483646, 2147483647};
        for (int seed : seeds) {
            BigInteger x = BigInteger.valueOf(seed);
            for (int ahead = 0; ahead < 4; ahead++) {
                x = x.multiply(BigInteger.valueOf(1103515245)).add(BigInteger.valueOf(12345)).mod(BigInteger.ONE.shiftLeft(31));
                int drawn = x.intValueExact() / 64 % 100;
                Checks.due("seed " + seed + ", " + drawn + " is not below itself", wet(seed, ahead, drawn), 0);
                Checks.due("seed " + seed + ", " + drawn + " is below one more", wet(seed, ahead, drawn + 1), 1);
            }
        }
    }

    /** What a day by the seed answers, behind as many draws. */
    private static int wet(int seed, int ahead, int rain) {
        OthersShoes x = Checks.in(LINE + "rain " + rain + ";");
        x.cross(0);
        x.seed(seed);
        if (ahead > 0) {
            x.chance(ahead);
        }
        return x.chance(1);
    }

    private static void undoes() {
        Edges.says("The latest ACT is undone (the seed stays): true; false, refused (4), when none can be.");
        OthersShoes x = Checks.in(LINE);
        Checks.due("none", x.undo(), false);
        Checks.due("refused", x.status(4), 1);
        x.law(1);
        x.law(2);
        Checks.due("undo", x.undo(), true);
        Checks.due("the latest one", x.has(5), 1);
        Checks.due("one is left", x.has(10), 1);
        Checks.due("undo", x.undo(), true);
        Checks.due("the first one", x.has(5), 0);
        Checks.due("none is left", x.undo(), false);
        Checks.due("refused", x.status(4), 2);
        Checks.due("an act again", x.law(2), true);
        Checks.due("undo", x.undo(), true);
        x.cross(7);
        x.back(0);
        x.law(0);
        x.days(0);
        x.chance(0);
        x.seed(5);
        x.image();
        Checks.due("what is refused is no act, nor is a seed or an image", x.has(10), 0);
    }

    private static void undoesTwenty() {
        Edges.says("The last 20 can be undone.");
        for (int acts = 19; acts <= 43; acts++) {
            OthersShoes x = Checks.in(STILL);
            for (int k = 0; k < acts; k++) {
                x.days(1);
            }
            int can = Math.min(20, acts);
            Checks.due("acts", x.has(10), can);
            for (int k = 1; k <= can; k++) {
                Checks.due("undo " + k, x.undo(), true);
                Checks.due("day", x.has(4), acts - k);
                Checks.due("acts", x.has(10), can - k);
            }
            Checks.due("no more", x.undo(), false);
            Checks.due("day", x.has(4), acts - can);
        }
    }

    private static void undoesEach() {
        Edges.says("ACTS: one CROSSES; another LAW; one who has CROSSED gives his PAIR back");
        OthersShoes x = Checks.in(LINE);
        x.cross(0);
        x.days(1);
        int[] before = Checks.image(x);
        x.cross(1);
        undone("cross", x, before);
        x.law(2);
        undone("law", x, before);
        x.back(0);
        undone("back", x, before);
        x.days(7);
        undone("days", x, before);
        x.chance(7);
        undone("chance", x, before);
    }

    private static void undone(String name, OthersShoes x, int[] before) {
        Checks.due(name + " is an act", x.has(10), 3);
        Checks.due(name + " changes something", Arrays.equals(Checks.image(x), before), false);
        Checks.due(name + " undone", x.undo(), true);
        Checks.due(name + " all as before", Arrays.equals(Checks.image(x), before), true);
    }

    private static void seedIsKept() {
        Edges.says("(the seed stays)");
        OthersShoes x = Checks.in(LINE + "rain 19;");
        x.cross(0);
        Checks.due("18", x.chance(1), 1);
        x.undo();
        Checks.due("99", x.chance(1), 0);
        x.undo();
        x.seed(1);
        x.undo();
        x.cross(0);
        Checks.due("18 again", x.chance(1), 1);
    }

    private static void seeds() {
        Edges.says("The seed: true; false, refused (5), when it is below 0. (It is 1 at first.)");
        OthersShoes x = Checks.in(LINE + "rain 19;");
        x.cross(0);
        Checks.due("1 at first: 18", x.chance(1), 1);
        Checks.due("seed(1)", x.seed(1), true);
        Checks.due("18", x.chance(1), 1);
        Checks.due("seed(0)", x.seed(0), true);
        Checks.due("192 mod 100", x.chance(1), 0);
        Checks.due("the greatest seed", x.seed(Integer.MAX_VALUE), true);
        Checks.due("none refused", x.status(5), 0);
        x.seed(1);
        Checks.due("seed(-1)", x.seed(-1), false);
        Checks.due("the least number", x.seed(Integer.MIN_VALUE), false);
        Checks.due("refused", x.status(5), 2);
        Checks.due("the seed stays: 18", x.chance(1), 1);
        Checks.due("no act", x.has(10), 5);
    }
}
