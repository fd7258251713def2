/** The boundaries of what is TRIED: the document's terms, III, with promises 14 to 19. */
public final class TrialEdgesTest {
    /** The fork is at a, a leg behind the frontier z, so that he arrives in legs of even numbers. */
    private static final String LATE = "place z;place a;place b;place c;road z a miles 1;road a b miles 1;road a c miles 1;"
        + "pair p size 10 pulls c by 5;pair o size 10 pulls b by 0;pair q size 10 pulls c by 5;"
        + "walker w size 10 will 3 to b in o;";
    private static final String ROADS = "place a;place b;place c;road a b miles 1;road a c miles 1;";

    private TrialEdgesTest() {
    }

    public static void main(String[] args) {
        thirtyLegs();
        anyPair();
        tries();
        where();
        habitsStay();
        firm();
        firmAsked();
        odd();
        oddAsked();
        dealsUnlikeOnes();
        dealsForMost();
        dealsByLegs();
        dealsFirstRow();
        dealAsked();
        lawsCompared();
        lawedAsked();
        Checks.finish("TrialEdgesTest");
    }

    /** He goes to and fro until he has walked so many legs. */
    private static String until(int legs) {
        return "pull " + legs + ";strive walked;";
    }

    private static void thirtyLegs() {
        Edges.says("leg by leg, 30 at most; habits stay as they are behind it.");
        Checks.due("29 legs", Checks.in(Edges.FORK + until(28)).tries(0, 0), 29);
        Checks.due("30 legs", Checks.in(LATE + until(29)).tries(0, 0), 30);
        Checks.due("31 legs", Checks.in(Edges.FORK + until(30)).tries(0, 0), -1);
        Checks.due("32 legs", Checks.in(LATE + until(31)).tries(0, 0), -1);
        OthersShoes x = Checks.in(LATE + until(29));
        Checks.due("behind 29", x.where(0, 0, 29), 1);
        Checks.due("behind 30", x.where(0, 0, 30), 2);
        OthersShoes y = Checks.in(Edges.FORK + until(30));
        Checks.due("behind 29", y.where(0, 0, 29), 2);
        Checks.due("behind 30", y.where(0, 0, 30), 0);
    }

    private static void anyPair() {
        Edges.says("TRIED is a WALKER in a PAIR (any, as strong as its habit is now), as if he had just CROSSED in it on this DAY,");
        OthersShoes x = Checks.in(LATE + "legs 1;pull habit+walked+100*day;strive 7;");
        Checks.due("6 + 1 is not above 7", x.tries(0, 0), 2);
        Checks.due("in his own", x.tries(0, 1), 2);
        x.cross(0);
        Checks.due("one who has crossed", x.tries(0, 0), 2);
        x.days(1);
        Checks.due("the habit now", x.pair(0, 2), 6);
        Checks.due("from the frontier", x.where(0, 0, 0), 0);
        Checks.due("no leg walked, but 100 by the day", x.where(0, 0, 2), 3);
        Checks.due("in one on the shelf", x.where(0, 2, 2), 3);
        x.undo();
        Checks.due("on day 0 again", x.tries(0, 0), 2);
        OthersShoes y = Checks.in(LATE + "legs 1;pull habit+walked;strive 7;");
        y.cross(0);
        y.days(1);
        Checks.due("7 + 1 is above 7", y.where(0, 0, 2), 3);
        Checks.due("6 + 1 is not", y.where(0, 2, 2), 2);
        Checks.due("where he is stays", y.walker(0, 4), 1);
        Checks.due("the legs he walked stay", y.walker(0, 5), 1);
    }

    private static void tries() {
        Edges.says("A WALKER TRIED in a PAIR: in how many legs he is THERE (0: at once); NONE when in none of 30, or there are none such.");
        OthersShoes x = Checks.in(Edges.FORK);
        Checks.due("by the pull for ever", x.tries(0, 0), -1);
        Checks.due("in his own", x.tries(0, 1), 1);
        Checks.due("walker 1", x.tries(1, 1), -1);
        Checks.due("walker -1", x.tries(-1, 1), -1);
        Checks.due("pair 2", x.tries(0, 2), -1);
        Checks.due("pair -1", x.tries(0, -1), -1);
        OthersShoes y = Checks.in(Edges.FORK.replace("to b in", "to a in"));
        Checks.due("at once", y.tries(0, 0), 0);
        Checks.due("at once", y.where(0, 0, 30), 0);
        OthersShoes all = Checks.in("place a;" + Edges.pairs(8) + Edges.walkers(6));
        Checks.due("the last ones", all.tries(5, 7), 0);
        Checks.due("a walker too far", all.tries(6, 7), -1);
        Checks.due("a pair too far", all.tries(5, 8), -1);
    }

    private static void where() {
        Edges.says("Where a WALKER TRIED in a PAIR is behind so many legs (0 .. 30); NONE when there are none such, or it can't be.");
        OthersShoes x = Checks.in(Edges.FORK);
        for (int leg = 0; leg <= 30; leg++) {
            Checks.due("to and fro " + leg, x.where(0, 0, leg), leg % 2 == 0 ? 0 : 2);
            Checks.due("there he stays " + leg, x.where(0, 1, leg), leg == 0 ? 0 : 1);
        }
        Checks.due("legs -1", x.where(0, 0, -1), -1);
        Checks.due("legs 31", x.where(0, 0, 31), -1);
        Checks.due("legs 31, there", x.where(0, 1, 31), -1);
        Checks.due("the greatest number", x.where(0, 0, Integer.MAX_VALUE), -1);
        Checks.due("walker 1", x.where(1, 0, 0), -1);
        Checks.due("walker -1", x.where(-1, 0, 0), -1);
        Checks.due("pair 2", x.where(0, 2, 0), -1);
        Checks.due("pair -1", x.where(0, -1, 0), -1);
        OthersShoes all = Checks.in("place a;" + Edges.pairs(8) + Edges.walkers(6));
        Checks.due("the last ones", all.where(5, 7, 30), 0);
        Checks.due("a walker too far", all.where(6, 7, 0), -1);
        Checks.due("a pair too far", all.where(5, 8, 0), -1);
    }

    private static void habitsStay() {
        Edges.says("habits stay as they are behind it.");
        OthersShoes x = Checks.in(LATE);
        for (int n = 0; n < 3; n++) {
            x.tries(0, 0);
            x.where(0, 0, 30);
            x.firm(0, 0);
            x.odd(0, 0, 2);
            x.deal(-1);
            x.lawed(0);
            x.prints(0);
            x.tells(0);
            int[] habit = {5, 0, 5};
            for (int pair = 0; pair < 3; pair++) {
                Checks.due("habit", x.pair(pair, 2), habit[pair]);
            }
            Checks.due("at home", x.walker(0, 4), -1);
            Checks.due("in his own", x.walker(0, 3), 1);
            Checks.due("no leg", x.walker(0, 5), 0);
            Checks.due("day", x.has(4), 0);
            Checks.due("no act", x.has(10), 0);
            Edges.shelf(x, 0, 2);
        }
        Checks.due("nothing of a trial is left", Checks.in(Edges.FORK + until(28)).tries(0, 0), 29);
    }

    private static void firm() {
        Edges.says("FIRM is the least will (0 .. 99) by which a WALKER TRIED in a PAIR is THERE.");
        for (int habit = 0; habit <= 9; habit++) {
            String fork = Edges.FORK.replace("pulls c by 5", "pulls c by " + habit);
            Checks.due("as strong as the habit", Checks.in(fork).firm(0, 0), habit);
        }
        Checks.due("0 is enough in 30 legs", Checks.in(LATE + "pull 29;strive walked+will;").firm(0, 0), 0);
        Checks.due("0 is not, 1 is", Checks.in(LATE + "pull 30;strive walked+will;").firm(0, 0), 1);
        Checks.due("98 is not, 99 is", Checks.in(LATE + "pull 29+99;strive walked+will;").firm(0, 0), 99);
        Checks.due("99 is not", Checks.in(LATE + "pull 30+99;strive walked+will;").firm(0, 0), -1);
        Checks.due("the least of those", Checks.in(Edges.FORK + "strive will/7*7;").firm(0, 0), 7);
        Checks.due("the pull knows the will, too", Checks.in(Edges.FORK + "pull 20-will;strive 3;").firm(0, 0), 17);
        Checks.due("a greater will is worse", Checks.in(Edges.FORK + "pull will;strive 50;").firm(0, 0), 0);
    }

    private static void firmAsked() {
        Edges.says("FIRM: the least will; NONE when none is enough, or there are none such.");
        OthersShoes x = Checks.in(Edges.FORK);
        Checks.due("5", x.firm(0, 0), 5);
        Checks.due("walker 1", x.firm(1, 0), -1);
        Checks.due("walker -1", x.firm(-1, 0), -1);
        Checks.due("pair 2", x.firm(0, 2), -1);
        Checks.due("pair -1", x.firm(0, -1), -1);
        Checks.due("his will stays", x.walker(0, 1), 3);
        Checks.due("none is enough", Checks.in(Edges.FORK + "pull 100;").firm(0, 0), -1);
        Checks.due("99 is", Checks.in(Edges.FORK + "pull 99;").firm(0, 0), 99);
        Checks.due("no way", Checks.in(Edges.FORK.replace("road a b miles 1;", "")).firm(0, 0), -1);
        Checks.due("at once", Checks.in(Edges.FORK.replace("to b in", "to a in")).firm(0, 0), 0);
    }

    private static void odd() {
        Edges.says("ODD is a WALKER TRIED with one shoe of a PAIR, one of another one: in legs of even numbers (0, 2, ..) the first one pulls, "
            + "in the others the second one, each by its habit, size.");
        OthersShoes x = Checks.in(Edges.FORK);
        Checks.due("p pulls in legs 0, 2, ..", x.odd(0, 0, 1), -1);
        Checks.due("o in leg 0", x.odd(0, 1, 0), 1);
        OthersShoes late = Checks.in(LATE);
        Checks.due("at the fork p", late.odd(0, 1, 0), -1);
        Checks.due("at the fork o", late.odd(0, 0, 1), 2);
        OthersShoes y = Checks.in(Edges.FORK + "pair q size 10 pulls b by 5;pull habit;strive 3+walked;");
        Checks.due("p is stronger by its own legs: 5, 6 are above 3, 5, 7 is not above 7", y.odd(0, 0, 2), 5);
        OthersShoes v = Checks.in(LATE + "strive 5;");
        Checks.due("p is 6 by its leg 0", v.tries(0, 0), -1);
        Checks.due("q is 5 behind p's leg 0", v.odd(0, 0, 2), 2);
        OthersShoes z = Checks.in(Edges.FORK + "pair q size 12 pulls c by 5;pull 5-tight;strive 3;");
        Checks.due("5 - 0 is above", z.odd(0, 0, 2), -1);
        Checks.due("5 - 2 is not", z.odd(0, 2, 0), 1);
        OthersShoes w = Checks.in(Edges.FORK + "pair q size 10 pulls c by 3;");
        Checks.due("5 is above 3", w.odd(0, 0, 2), -1);
        Checks.due("3 is not", w.odd(0, 2, 0), 1);
    }

    private static void oddAsked() {
        Edges.says("ODD: in how many legs he is THERE; NONE when in none of 30, there are none such, or both PAIRS are one.");
        Checks.due("in 30", Checks.in(LATE + until(29)).odd(0, 0, 2), 30);
        Checks.due("not in 32", Checks.in(LATE + until(30)).odd(0, 0, 2), -1);
        Checks.due("in 29", Checks.in(Edges.FORK + "pair q size 1 pulls c by 1;" + until(28)).odd(0, 0, 2), 29);
        Checks.due("not in 31", Checks.in(Edges.FORK + "pair q size 1 pulls c by 1;" + until(29)).odd(0, 0, 2), -1);
        OthersShoes x = Checks.in(Edges.FORK.replace("to b in", "to a in"));
        Checks.due("at once", x.odd(0, 0, 1), 0);
        Checks.due("at once", x.odd(0, 1, 0), 0);
        Checks.due("both are one", x.odd(0, 0, 0), -1);
        Checks.due("both are one", x.odd(0, 1, 1), -1);
        Checks.due("walker 1", x.odd(1, 0, 1), -1);
        Checks.due("walker -1", x.odd(-1, 0, 1), -1);
        Checks.due("first 2", x.odd(0, 2, 1), -1);
        Checks.due("first -1", x.odd(0, -1, 1), -1);
        Checks.due("second 2", x.odd(0, 1, 2), -1);
        Checks.due("second -1", x.odd(0, 1, -1), -1);
        OthersShoes all = Checks.in("place a;" + Edges.pairs(8) + Edges.walkers(6));
        Checks.due("the last ones", all.odd(5, 6, 7), 0);
        Checks.due("a first too far", all.odd(5, 8, 7), -1);
        Checks.due("a second too far", all.odd(5, 7, 8), -1);
        Checks.due("a walker too far", all.odd(6, 6, 7), -1);
    }

    private static void deals(String name, OthersShoes x, int there, int... want) {
        Checks.due(name + ": how many", x.deal(-1), there);
        for (int walker = 0; walker < want.length; walker++) {
            Checks.due(name + ": " + walker, x.deal(walker), want[walker]);
        }
        Checks.due(name + ": one more", x.deal(want.length), -1);
        Checks.due(name + ": -2", x.deal(-2), -1);
    }

    private static void dealsUnlikeOnes() {
        Edges.says("A DEAL gives each WALKER at HOME a PAIR of those on the SHELF (unlike ones, nobody's own), or none:");
        String text = ROADS + "pair x size 1 pulls b by 0;pair y size 1 pulls b by 0;"
            + "walker u size 1 will 1 to b in x;walker v size 1 will 1 to b in y;";
        deals("an empty shelf", Checks.in(text), 0, -1, -1);
        deals("one for two", Checks.in(text + "pair p size 1 pulls b by 0;"), 1, -1, 2);
        String two = text + "pair p size 1 pulls b by 0;pair q size 1 pulls b by 0;";
        deals("two for two", Checks.in(two), 2, 2, 3);
        OthersShoes crossed = Checks.in(two + "law 1;");
        Checks.due("u takes q, leaves x", crossed.cross(0), 3);
        deals("v alone is at home", crossed, 1, -1, 0);
        crossed.cross(1);
        deals("nobody is at home", crossed, 0, -1, -1);
        deals("six for two", Checks.in("place a;" + Edges.pairs(8) + Edges.walkers(6)), 2, -1, -1, -1, -1, 6, 7);
    }

    private static void dealsForMost() {
        Edges.says("so that most are THERE, each TRIED, within 30 legs,");
        deals("in 30", Checks.in(LATE + until(29)), 1, 0);
        deals("not in 32", Checks.in(LATE + until(30)), 0, -1);
        // v arrives in p alone, at once u in p, too, in q by and by: two who arrive go ahead of one who is quick.
        OthersShoes x = Checks.in(ROADS + "pair p size 1 pulls b by 0;pair q size 1 pulls c by 9;pair x size 1 pulls b by 0;"
            + "pair y size 1 pulls b by 0;walker u size 1 will 2 to b in x;walker v size 1 will 1 to b in y;"
            + "pull habit;strive walked*will-(2-will)*9999;");
        Checks.due("u in p", x.tries(0, 0), 1);
        Checks.due("u in q", x.tries(0, 1), 7);
        Checks.due("v in p", x.tries(1, 0), 1);
        Checks.due("v in q", x.tries(1, 1), -1);
        deals("two in eight legs", x, 2, 1, 0);
    }

    private static void dealsByLegs() {
        Edges.says("of like ones by the fewest legs of these together,");
        String text = ROADS + "pair p size 1 pulls c by 4;pair q size 1 pulls c by 3;pair x size 1 pulls b by 0;"
            + "pair y size 1 pulls b by 0;walker u size 1 will 3 to b in x;walker v size 1 will 4 to b in y;"
            + "pull habit-2*walked;";
        OthersShoes x = Checks.in(text);
        Checks.due("u in p", x.tries(0, 0), 3);
        Checks.due("u in q", x.tries(0, 1), 1);
        Checks.due("v in p", x.tries(1, 0), 1);
        Checks.due("v in q", x.tries(1, 1), 1);
        deals("2 legs, not 4", x, 2, 1, 0);
        deals("as quick in both: the first row", Checks.in(text + "strive 9;"), 2, 0, 1);
    }

    private static void dealsFirstRow() {
        Edges.says("of like ones the first row (WALKER by WALKER, none ahead of PAIRS by numbers).");
        String text = ROADS + "pair p size 1 pulls b by 0;pair q size 1 pulls b by 0;pair r size 1 pulls b by 0;";
        String two = "walker u size 1 will 3 to b in p;walker v size 1 will 4 to b in q;";
        deals("none ahead of pairs", Checks.in(text + two), 1, -1, 2);
        deals("pairs by numbers", Checks.in(text + two + "pair s size 1 pulls b by 0;pair t size 1 pulls b by 0;"), 2, 2, 3);
        OthersShoes y = Checks.in(text + two + "pair s size 1 pulls b by 0;law 1;");
        y.cross(0);
        y.back(0);
        // u is in r now, p and s are on the shelf: s, p.
        Edges.shelf(y, 0, 3);
        y.cross(0);
        y.back(0);
        Checks.due("u is in p now", y.walker(0, 3), 0);
        Edges.shelf(y, 2, 3);
        deals("by numbers", y, 2, 2, 3);
        OthersShoes z = Checks.in(text + "walker u size 1 will 3 to b in r;law 1;");
        z.cross(0);
        z.back(0);
        Edges.shelf(z, 2, 1);
        deals("by numbers, not by the shelf", z, 1, 1);
        OthersShoes useless = Checks.in(text.replace("pulls b", "pulls c").replace("by 0", "by 9") + two);
        deals("none ahead of a pair that does not help", useless, 0, -1, -1);
    }

    private static void dealAsked() {
        Edges.says("A DEAL: how many are THERE (walker NONE), the PAIR of a WALKER (NONE by none, when he is not at HOME, or there is none such).");
        OthersShoes x = Checks.in(Edges.FORK.replace("pulls c by 5", "pulls c by 3"));
        Checks.due("how many", x.deal(OthersShoes.NONE), 1);
        Checks.due("w", x.deal(0), 0);
        Checks.due("walker 1", x.deal(1), -1);
        Checks.due("walker -2", x.deal(-2), -1);
        Checks.due("the greatest number", x.deal(Integer.MAX_VALUE), -1);
        Checks.due("the least number", x.deal(Integer.MIN_VALUE), -1);
        x.cross(0);
        Checks.due("nobody is at home", x.deal(-1), 0);
        Checks.due("w is not at home", x.deal(0), -1);
        OthersShoes none = Checks.in(Edges.FORK);
        Checks.due("none is there", none.deal(-1), 0);
        Checks.due("none", none.deal(0), -1);
        Checks.due("there at once", Checks.in("place a;" + Edges.pairs(2) + Edges.walkers(1)).deal(-1), 1);
    }

    private static void lawsCompared() {
        Edges.says("A LAW is compared by how many WALKERS at HOME are THERE, each TRIED, if all of these CROSS by it now, by numbers, "
            + "one after the other (each leaves his own), as long as the SHELF is not empty.");
        String text = ROADS + "pair p size 12 pulls c by 9;pair q size 9 pulls c by 9;pair r size 11 pulls c by 1;"
            + "pair x size 12 pulls b by 0;pair y size 30 pulls b by 0;"
            + "walker u size 10 will 3 to b in x;walker v size 12 will 3 to b in y;";
        OthersShoes x = Checks.in(text);
        Checks.due("u q, v p", x.lawed(0), 0);
        Checks.due("u r, v x, which u leaves", x.lawed(1), 2);
        Checks.due("u p, v q", x.lawed(2), 0);
        x.law(1);
        Checks.due("whatever the law is", x.lawed(0), 0);
        Checks.due("whatever the law is", x.lawed(1), 2);
        x.cross(0);
        Checks.due("v alone is at home: x", x.lawed(1), 1);
        x.cross(1);
        Checks.due("nobody is", x.lawed(1), 0);
        Checks.due("in 30", Checks.in(LATE + until(29)).lawed(0), 1);
        Checks.due("not in 32", Checks.in(LATE + until(30)).lawed(0), 0);
        OthersShoes one = Checks.in("place a;" + Edges.pairs(7) + Edges.walkers(6));
        Checks.due("a shelf of one for six", one.lawed(0), 6);
        OthersShoes empty = Checks.in("place a;" + Edges.pairs(6) + Edges.walkers(6));
        Checks.due("an empty shelf", empty.lawed(0), 0);
        Checks.due("an empty shelf", empty.lawed(2), 0);
    }

    private static void lawedAsked() {
        Edges.says("A LAW compared: how many are THERE; NONE when there is none such.");
        OthersShoes x = Checks.in("place a;" + Edges.pairs(2) + Edges.walkers(1));
        for (int law = 0; law <= 2; law++) {
            Checks.due("lawed(" + law + ")", x.lawed(law), 1);
        }
        Checks.due("lawed(3)", x.lawed(3), -1);
        Checks.due("lawed(-1)", x.lawed(-1), -1);
        Checks.due("the law stays", x.has(5), 0);
        Checks.due("at home", x.walker(0, 4), -1);
        Edges.shelf(x, 1);
        Checks.due("nothing refused", x.status(2), 0);
    }
}
