/** Promises 14 to 19: tries, where, firm, odd, deal, lawed. */
public final class TriedTest {
    /** At a the will goes to b, a pull to c; behind c it goes back to a. */
    private static final String ROADS = "place a;place b;place c;road a b miles 1;road a c miles 1;";
    private static final String FORK = ROADS + "pair p size 10 pulls c by 5;pair q size 12 pulls b by 3;"
        + "pair r size 9 pulls a by 0;pair s size 10 pulls c by 3;walker w size 10 will 3 to b in r;";
    /** From a to d the way goes by c, back from d to a straight: three legs around. */
    private static final String ROUND = "place a;place b;place c;place d;road a b miles 1;road a c miles 1;"
        + "road c d miles 1;road a d miles 2;pair p size 10 pulls d by 6;pair t size 10 pulls d by 5;"
        + "pair o size 10 pulls a by 0;walker w size 10 will 3 to b in o;pull habit-walked;";

    private TriedTest() {
    }

    public static void main(String[] args) {
        pullAndWill();
        roundAndRound();
        sumsDecide();
        withoutWays();
        habitsStay();
        leastWill();
        oneShoeOfEach();
        dealsForMost();
        dealsByFewestLegs();
        dealsByTheFirstRow();
        dealsAtHomeAlone();
        lawsCompared();
        Checks.finish("TriedTest");
    }

    private static void path(String name, OthersShoes x, int pair, int... want) {
        for (int leg = 0; leg <= 30; leg++) {
            Checks.due(name + " behind " + leg, x.where(0, pair, leg), want[Math.min(leg, want.length - 1)]);
        }
        Checks.due(name + " behind 31", x.where(0, pair, 31), -1);
        Checks.due(name + " behind -1", x.where(0, pair, -1), -1);
    }

    private static void pullAndWill() {
        OthersShoes x = Checks.in(FORK);
        Checks.due("the pull is above the will for ever", x.tries(0, 0), -1);
        Checks.due("both go on alike", x.tries(0, 1), 1);
        Checks.due("no pull goes on", x.tries(0, 2), 1);
        Checks.due("a pull as strong as the will", x.tries(0, 3), 1);
        Checks.due("tries(1, 0)", x.tries(1, 0), -1);
        Checks.due("tries(-1, 0)", x.tries(-1, 0), -1);
        Checks.due("tries(0, 4)", x.tries(0, 4), -1);
        Checks.due("tries(0, -1)", x.tries(0, -1), -1);
        for (int leg = 0; leg <= 30; leg++) {
            Checks.due("to and fro", x.where(0, 0, leg), leg % 2 == 0 ? 0 : 2);
        }
        path("q", x, 1, 0, 1);
        path("s", x, 3, 0, 1);
        Checks.due("where(1, 0, 0)", x.where(1, 0, 0), -1);
        Checks.due("where(0, 4, 0)", x.where(0, 4, 0), -1);
        OthersShoes y = Checks.in(FORK.replace("to b in", "to a in"));
        Checks.due("there at once", y.tries(0, 0), 0);
        path("at once", y, 0, 0);
    }

    private static void roundAndRound() {
        OthersShoes x = Checks.in(ROUND);
        Checks.due("tries p", x.tries(0, 0), 7);
        path("p", x, 0, 0, 2, 3, 0, 2, 3, 0, 1);
        Checks.due("tries t", x.tries(0, 1), 7);
    }

    private static void sumsDecide() {
        Checks.due("tight", Checks.in(FORK.replace("pair p size 10", "pair p size 12") + "pull habit-tight;")
            .tries(0, 0), 1);
        Checks.due("tight the other way", Checks.in(FORK.replace("pair p size 10", "pair p size 8")
            + "pull habit-tight;").tries(0, 0), 1);
        Checks.due("less tight", Checks.in(FORK.replace("pair p size 10", "pair p size 11") + "pull habit-tight;")
            .tries(0, 0), -1);
        Checks.due("walked", Checks.in(FORK + "strive will+walked;").tries(0, 0), 5);
        Checks.due("the habit mends by each leg", Checks.in(FORK + "strive will+walked;").where(0, 0, 3), 2);
        OthersShoes x = Checks.in(FORK + "strive will+day;");
        Checks.due("day 0", x.tries(0, 0), -1);
        x.days(1);
        Checks.due("day 1", x.tries(0, 0), -1);
        x.days(1);
        Checks.due("day 2", x.tries(0, 0), 1);
        Checks.due("not to zero but down", Checks.in(FORK + "pull (0-7)/2;strive 0-3;").tries(0, 0), 1);
        Checks.due("down is above", Checks.in(FORK + "pull (0-7)/2;strive 0-5;").tries(0, 0), -1);
        Checks.due("by 0", Checks.in(FORK + "pull 9/0;strive 0;").tries(0, 0), 1);
        Checks.due("limit", Checks.in(FORK + "pull 9999*9999;strive 9999*9999;").tries(0, 0), 1);
        Checks.due("limit below", Checks.in(FORK + "pull 0-9999*101-9999;strive 0-9999*9999;").tries(0, 0), 1);
        Checks.due("from the left on", Checks.in(FORK + "pull 8/4*2;strive 3;").tries(0, 0), -1);
        Checks.due("from the left on", Checks.in(FORK + "pull 8-4-2;strive 2;").tries(0, 0), 1);
        Checks.due("products first", Checks.in(FORK + "pull 2+3*4;strive 14;").tries(0, 0), 1);
        Checks.due("min", Checks.in(FORK + "pull min(4,9);strive max(4,1);").tries(0, 0), 1);
        Checks.due("max", Checks.in(FORK + "pull max(4,9);strive min(8,9);").tries(0, 0), -1);
    }

    private static void withoutWays() {
        String apart = "place a;place b;place c;place d;road a c miles 1;road c d miles 1;pair p size 1 pulls d by 0;"
            + "pair q size 1 pulls b by 5;walker w size 1 will 9 to b in q;";
        OthersShoes x = Checks.in(apart);
        path("no way to where he wants to go: by the pull", x, 0, 0, 2, 3);
        Checks.due("never there", x.tries(0, 0), -1);
        path("no way at all: he stays", x, 1, 0);
        x.cross(0);
        x.days(1);
        Checks.due("two legs by the pull, one staying", x.walker(0, 5), 3);
        Checks.due("stronger by two", x.pair(0, 2), 2);
        OthersShoes y = Checks.in(apart.replace("to b in", "to d in").replace("pair p", "pair z"));
        path("none to where it pulls: by the will", y, 1, 0, 2, 3);
        Checks.due("there", y.tries(0, 1), 2);
    }

    private static void habitsStay() {
        OthersShoes x = Checks.in(ROUND);
        x.tries(0, 0);
        x.where(0, 0, 30);
        x.firm(0, 0);
        x.odd(0, 0, 1);
        x.deal(-1);
        x.lawed(0);
        x.prints(0);
        Checks.due("habit", x.pair(0, 2), 6);
        Checks.due("habit", x.pair(1, 2), 5);
        Checks.due("where", x.walker(0, 4), -1);
        Checks.due("shelf", x.shelf(0), 0);
        Checks.due("tried again", x.tries(0, 0), 7);
        x.law(2);
        x.cross(0);
        x.days(1);
        Checks.due("as strong as it is now", x.pair(0, 2), 8);
        Checks.due("anew from the frontier, no leg walked", x.where(0, 0, 1), 2);
        Checks.due("8, 8-1, -, 9-3, 9-4, -, 9-6", x.tries(0, 0), 7);
    }

    private static void leastWill() {
        OthersShoes x = Checks.in(FORK);
        Checks.due("firm p", x.firm(0, 0), 5);
        Checks.due("firm q", x.firm(0, 1), 0);
        Checks.due("firm r", x.firm(0, 2), 0);
        Checks.due("firm s", x.firm(0, 3), 3);
        Checks.due("firm(1, 0)", x.firm(1, 0), -1);
        Checks.due("firm(0, 4)", x.firm(0, 4), -1);
        Checks.due("firm(-1, 0)", x.firm(-1, 0), -1);
        Checks.due("in tens", Checks.in(FORK + "strive will/10*10;").firm(0, 0), 10);
        Checks.due("99", Checks.in(FORK + "strive will-94;").firm(0, 0), 99);
        Checks.due("none is enough", Checks.in(FORK + "strive will-95;").firm(0, 0), -1);
        Checks.due("the pull sees the will too", Checks.in(FORK + "pull 20-will;strive 3;").firm(0, 0), 17);
        Checks.due("his own will stays", x.walker(0, 1), 3);
    }

    private static void oneShoeOfEach() {
        OthersShoes x = Checks.in(ROUND);
        Checks.due("odd p t", x.odd(0, 0, 1), 4);
        Checks.due("odd t p", x.odd(0, 1, 0), 6);
        Checks.due("odd o p: no pull at a, so to b", x.odd(0, 2, 0), 1);
        Checks.due("both are one", x.odd(0, 0, 0), -1);
        Checks.due("odd(1, 0, 1)", x.odd(1, 0, 1), -1);
        Checks.due("odd(-1, 0, 1)", x.odd(-1, 0, 1), -1);
        Checks.due("odd(0, 3, 1)", x.odd(0, 3, 1), -1);
        Checks.due("odd(0, 0, 3)", x.odd(0, 0, 3), -1);
        Checks.due("odd(0, 0, -1)", x.odd(0, 0, -1), -1);
        OthersShoes y = Checks.in(FORK);
        Checks.due("odd p s", y.odd(0, 0, 3), -1);
        Checks.due("odd s p", y.odd(0, 3, 0), 1);
        OthersShoes z = Checks.in(ROUND.replace("pair t size 10", "pair t size 11") + "strive will+tight;");
        // p: 6 > 3 to c; t: 5-1 is not above 3+1, so to a; p: 7-2 > 3 to c; t: 4-3, to a; p: 8-4 > 3 to c; t: to a;
        // p: 9-6 is not above 3, so to b.
        Checks.due("each by its size", z.odd(0, 0, 1), 7);
    }

    private static void deals(String name, OthersShoes x, int there, int... want) {
        Checks.due(name + ": how many", x.deal(-1), there);
        for (int walker = 0; walker < want.length; walker++) {
            Checks.due(name + ": " + walker, x.deal(walker), want[walker]);
        }
        Checks.due(name + ": one more", x.deal(want.length), -1);
        Checks.due(name + ": -2", x.deal(-2), -1);
    }

    private static void dealsForMost() {
        String shoes = ROADS + "pair p size 1 pulls c by 9;pair q size 1 pulls c by 5;pair r size 1 pulls c by 2;"
            + "pair x size 1 pulls b by 0;pair y size 1 pulls b by 0;pair z size 1 pulls b by 0;";
        OthersShoes x = Checks.in(shoes + "walker u size 1 will 9 to b in x;walker v size 1 will 2 to b in y;"
            + "walker w size 1 will 5 to b in z;");
        deals("each the strongest he can bear", x, 3, 0, 2, 1);
        OthersShoes y = Checks.in(shoes + "walker u size 1 will 1 to b in x;walker v size 1 will 2 to b in y;"
            + "walker w size 1 will 2 to b in z;");
        deals("none for whom none does", y, 1, -1, -1, 2);
    }

    private static void dealsByFewestLegs() {
        String text = ROADS + "pair p size 1 pulls c by 4;pair q size 1 pulls c by 3;pair x size 1 pulls b by 0;"
            + "pair y size 1 pulls b by 0;walker u size 1 will 3 to b in x;walker v size 1 will 4 to b in y;"
            + "pull habit-2*walked;";
        OthersShoes x = Checks.in(text);
        Checks.due("u in p", x.tries(0, 0), 3);
        Checks.due("u in q", x.tries(0, 1), 1);
        Checks.due("v in p", x.tries(1, 0), 1);
        Checks.due("v in q", x.tries(1, 1), 1);
        deals("fewest legs together", x, 2, 1, 0);
    }

    private static void dealsByTheFirstRow() {
        String text = ROADS + "pair p size 1 pulls b by 0;pair q size 1 pulls b by 0;pair r size 1 pulls b by 0;"
            + "walker u size 1 will 3 to b in p;walker v size 1 will 4 to b in q;";
        deals("none ahead of pairs", Checks.in(text), 1, -1, 2);
        OthersShoes x = Checks.in(text + "pair s size 1 pulls b by 0;pair t size 1 pulls b by 0;");
        deals("pairs by numbers", x, 2, 2, 3);
        OthersShoes y = Checks.in(text + "pair s size 1 pulls b by 0;law 1;");
        y.cross(0);
        y.back(0);
        Checks.due("the shelf is p, s now", y.shelf(0) * 10 + y.shelf(1), 3);
        deals("by numbers", y, 2, 0, 3);
    }

    private static void dealsAtHomeAlone() {
        OthersShoes x = Checks.in(ROADS + "pair p size 1 pulls b by 0;pair q size 1 pulls b by 0;"
            + "pair r size 1 pulls b by 0;walker u size 1 will 3 to b in p;walker v size 1 will 4 to b in q;");
        x.cross(0);
        deals("u has crossed, p is on the shelf", x, 1, -1, 0);
        x.cross(1);
        deals("nobody is at home", x, 0, -1, -1);
    }

    private static void lawsCompared() {
        String text = ROADS + "pair p size 12 pulls c by 9;pair q size 9 pulls c by 9;pair r size 11 pulls c by 1;"
            + "pair x size 12 pulls b by 0;pair y size 30 pulls b by 0;"
            + "walker u size 10 will 3 to b in x;walker v size 12 will 3 to b in y;";
        OthersShoes x = Checks.in(text);
        Checks.due("law 0: q, p", x.lawed(0), 0);
        Checks.due("law 1: r, then u's own x", x.lawed(1), 2);
        Checks.due("law 2: p, q", x.lawed(2), 0);
        Checks.due("lawed(3)", x.lawed(3), -1);
        Checks.due("lawed(-1)", x.lawed(-1), -1);
        Checks.due("the law stays", x.has(5), 0);
        Checks.due("the shelf stays", x.shelf(0), 0);
        x.law(1);
        x.cross(0);
        Checks.due("v alone, law 1", x.lawed(1), 1);
        Checks.due("v alone, law 0: p", x.lawed(0), 0);
        OthersShoes one = Checks.in(ROADS + "pair p size 1 pulls b by 1;pair q size 1 pulls b by 1;"
            + "walker w size 1 will 1 to b in p;");
        Checks.due("a shelf of one", one.lawed(0), 1);
        OthersShoes y = Checks.in("place a;pair p size 1 pulls a by 1;walker w size 1 will 1 to a in p;");
        Checks.due("an empty shelf", y.lawed(0), 0);
        Checks.due("a deal of an empty shelf", y.deal(-1), 0);
        Checks.due("none", y.deal(0), -1);
    }
}
