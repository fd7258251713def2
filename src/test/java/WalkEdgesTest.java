/** The boundaries of the document's terms, II, and of promises 6 and 8 to 13: ways, crossing, legs, what can be asked. */
public final class WalkEdgesTest {
    private static final String LAND = "place a;place b;place c;road a b miles 1;road b c miles 1;"
        + "pair p size 40 pulls c by 6;pair q size 44 pulls b by 9;pair r size 38 pulls a by 0;"
        + "pair s size 42 pulls c by 2;pair t size 42 pulls c by 3;"
        + "walker ann size 40 will 7 to c in q;walker bob size 41 will 3 to a in p;";
    /** The will goes from a on to e, the pull of p back to a; one leg a day. */
    private static final String LINE = "place a;place b;place c;place d;place e;road a b miles 1;road b c miles 1;"
        + "road c d miles 1;road d e miles 1;pair p size 1 pulls a by 5;pair o size 1 pulls a by 0;"
        + "walker w size 1 will 9 to e in o;legs 1;";

    private WalkEdgesTest() {
    }

    public static void main(String[] args) {
        atFirst();
        ways();
        likeWays();
        howMany();
        noSuchPlaces();
        ofPairs();
        ofWalkers();
        ofTheShelf();
        crossesFromHome();
        laws();
        leavesHisOwn();
        there();
        pullAboveStrive();
        noWayOn();
        stronger();
        weaker();
        asItIs();
        mostLegs();
        aDay();
        gets();
        Checks.finish("WalkEdgesTest");
    }

    private static void row(OthersShoes x, int walker, int wears, int at, int legs, int isThere) {
        Checks.due("wears", x.walker(walker, 3), wears);
        Checks.due("at", x.walker(walker, 4), at);
        Checks.due("legs", x.walker(walker, 5), legs);
        Checks.due("there", x.walker(walker, 6), isThere);
    }

    private static void atFirst() {
        Edges.says("It is DAY 0 at first; WALKERS are at HOME, in their own PAIRS; all other PAIRS are on the SHELF, "
            + "by numbers; a habit is as strong as told.");
        OthersShoes x = Checks.in(LAND);
        Checks.due("day", x.has(4), 0);
        row(x, 0, 1, -1, 0, 0);
        row(x, 1, 0, -1, 0, 0);
        Edges.shelf(x, 2, 3, 4);
        int[] habit = {6, 9, 0, 2, 3};
        for (int pair = 0; pair < 5; pair++) {
            Checks.due("habit", x.pair(pair, 2), habit[pair]);
        }
        Edges.shelf(Checks.in("place a;" + Edges.pairs(6) + Edges.walkers(6)));
        Edges.shelf(Checks.in("place a;" + Edges.pairs(8)), 0, 1, 2, 3, 4, 5, 6, 7);
        Edges.shelf(Checks.in("place a;pair p size 1 pulls a by 1;pair q size 1 pulls a by 1;pair r size 1 pulls a by 1;"
            + "walker w size 1 will 1 to a in q;"), 0, 2);
    }

    private static void ways() {
        Edges.says("The way from a PLACE to another one is the shortest by miles;");
        String roads = "place a;place b;place c;road a c miles 3;road c b miles 3;road a b miles ";
        Checks.due("5 miles straight", Checks.in(roads + "5;").miles(0, 1), 5);
        Checks.due("straight", Checks.in(roads + "5;").next(0, 1), 1);
        Checks.due("6 miles", Checks.in(roads + "7;").miles(0, 1), 6);
        Checks.due("around", Checks.in(roads + "7;").next(0, 1), 2);
        Checks.due("and back", Checks.in(roads + "7;").next(1, 0), 2);
        OthersShoes far = Checks.in(Edges.places(7) + "road g f miles 9;road f e miles 9;road e d miles 9;road d c miles 9;"
            + "road c b miles 9;road b a miles 9;");
        Checks.due("the longest way", far.miles(0, 6), 54);
        Checks.due("its next", far.next(0, 6), 1);
        Checks.due("and back", far.next(6, 0), 5);
    }

    private static void likeWays() {
        Edges.says("of like ones it goes on by the PLACE of the least number, each time.");
        Checks.due("straight by b, or by c", Checks.in("place a;place b;place c;road a c miles 3;road c b miles 3;"
            + "road a b miles 6;").next(0, 1), 1);
        Checks.due("straight by c, or by b", Checks.in("place a;place b;place c;road a b miles 3;road b c miles 3;"
            + "road a c miles 6;").next(0, 2), 1);
        // From a to g by b, c and then d, e, f: six ways of three miles, but of b only the one by f.
        OthersShoes x = Checks.in(Edges.places(7) + "road a c miles 1;road a b miles 1;road c e miles 1;road c d miles 1;"
            + "road b f miles 1;road f g miles 1;road e g miles 1;road d g miles 1;");
        Checks.due("by b", x.next(0, 6), 1);
        Checks.due("by f", x.next(1, 6), 5);
        Checks.due("by d", x.next(2, 6), 3);
        Checks.due("back by d", x.next(6, 0), 3);
        Checks.due("miles", x.miles(0, 6), 3);
    }

    private static void howMany() {
        Edges.says("How many there are: 0 PLACES, 1 ROADS, 2 PAIRS, 3 WALKERS, 4 DAY, 5 LAW, 6 PAIRS on the SHELF, "
            + "7 who have CROSSED, 8 who are THERE, 9 rows SEEN, 10 ACTS that can be undone. NONE for others.");
        OthersShoes x = Checks.in(LAND + "law 1;");
        x.cross(0);
        x.cross(1);
        x.days(5);
        Checks.see(x, 0, 0, 1, 1, 2, 2, 3, 2, 4, 2, 5, 2);
        int[] want = {3, 2, 5, 2, 5, 1, 3, 2, 2, 6, 3};
        for (int what = 0; what <= 10; what++) {
            Checks.due("has(" + what + ")", x.has(what), want[what]);
        }
        Checks.due("has(-1)", x.has(-1), -1);
        Checks.due("has(11)", x.has(11), -1);
        Checks.due("has of the greatest number", x.has(Integer.MAX_VALUE), -1);
        Checks.due("has of the least number", x.has(Integer.MIN_VALUE), -1);
    }

    private static void noSuchPlaces() {
        Edges.says("Miles of the way from a PLACE to another one (0 to itself); NONE when there is none, or there are none such.");
        OthersShoes x = Checks.in("place a;place b;place c;road a b miles 4;");
        Checks.due("a b", x.miles(0, 1), 4);
        for (int place = 0; place < 3; place++) {
            Checks.due("to itself", x.miles(place, place), 0);
            Checks.due("from 3", x.miles(3, place), -1);
            Checks.due("to 3", x.miles(place, 3), -1);
            Checks.due("from -1", x.miles(-1, place), -1);
            Checks.due("to -1", x.miles(place, -1), -1);
        }
        Checks.due("no way", x.miles(0, 2), -1);
        Checks.due("no way", x.miles(2, 1), -1);
        Checks.due("from 3 to 3", x.miles(3, 3), -1);
        Checks.due("from -1 to -1", x.miles(-1, -1), -1);
        Edges.says("The next PLACE on that way; NONE when there is none, there are none such, or they are one.");
        Checks.due("a b", x.next(0, 1), 1);
        Checks.due("b a", x.next(1, 0), 0);
        for (int place = 0; place < 3; place++) {
            Checks.due("they are one", x.next(place, place), -1);
            Checks.due("from 3", x.next(3, place), -1);
            Checks.due("to 3", x.next(place, 3), -1);
            Checks.due("from -1", x.next(-1, place), -1);
            Checks.due("to -1", x.next(place, -1), -1);
        }
        Checks.due("no way", x.next(0, 2), -1);
        OthersShoes all = Checks.in(Edges.places(7) + "road a b miles 1;road g b miles 1;");
        Checks.due("to the seventh", all.miles(0, 6), 2);
        Checks.due("to an eighth", all.miles(0, 7), -1);
        Checks.due("from an eighth", all.miles(7, 0), -1);
        Checks.due("next to an eighth", all.next(0, 7), -1);
        Checks.due("next from an eighth", all.next(7, 0), -1);
        Checks.due("miles far off", all.miles(Integer.MAX_VALUE, Integer.MIN_VALUE), -1);
        Checks.due("next far off", all.next(Integer.MIN_VALUE, Integer.MAX_VALUE), -1);
    }

    private static void ofPairs() {
        Edges.says("Of a PAIR: 0 size, 1 where it pulls, 2 how strong its habit is, 3 who wears it (NONE: it is on the SHELF).");
        OthersShoes x = Checks.in(LAND);
        int[][] want = {{40, 2, 6, 1}, {44, 1, 9, 0}, {38, 0, 0, -1}, {42, 2, 2, -1}, {42, 2, 3, -1}};
        for (int pair = 0; pair < 5; pair++) {
            for (int what = 0; what <= 3; what++) {
                Checks.due("pair(" + pair + ", " + what + ")", x.pair(pair, what), want[pair][what]);
            }
        }
        x.cross(0);
        Checks.due("on the shelf now", x.pair(1, 3), -1);
        Checks.due("worn now", x.pair(2, 3), 0);
        Edges.says("NONE when there is none such, or for others.");
        for (int what = -1; what <= 4; what++) {
            Checks.due("pair(-1, " + what + ")", x.pair(-1, what), -1);
            Checks.due("pair(5, " + what + ")", x.pair(5, what), -1);
        }
        Checks.due("pair(0, -1)", x.pair(0, -1), -1);
        Checks.due("pair(0, 4)", x.pair(0, 4), -1);
        OthersShoes all = Checks.in("place a;" + Edges.pairs(8));
        Checks.due("the eighth", all.pair(7, 0), 1);
        Checks.due("a ninth", all.pair(8, 0), -1);
    }

    private static void ofWalkers() {
        Edges.says("Of a WALKER: 0 size, 1 will, 2 where he wants to go, 3 the PAIR he wears, 4 where he is (NONE at HOME), "
            + "5 legs walked, 6 whether he is THERE.");
        OthersShoes x = Checks.in(LAND);
        int[][] want = {{40, 7, 2, 1, -1, 0, 0}, {41, 3, 0, 0, -1, 0, 0}};
        for (int walker = 0; walker < 2; walker++) {
            for (int what = 0; what <= 6; what++) {
                Checks.due("walker(" + walker + ", " + what + ")", x.walker(walker, what), want[walker][what]);
            }
        }
        x.cross(0);
        row(x, 0, 2, 0, 0, 0);
        x.days(1);
        row(x, 0, 2, 2, 2, 1);
        for (int what = -1; what <= 7; what++) {
            Checks.due("walker(-1, " + what + ")", x.walker(-1, what), -1);
            Checks.due("walker(2, " + what + ")", x.walker(2, what), -1);
        }
        Checks.due("walker(0, -1)", x.walker(0, -1), -1);
        Checks.due("walker(0, 7)", x.walker(0, 7), -1);
        OthersShoes all = Checks.in("place a;" + Edges.pairs(6) + Edges.walkers(6));
        Checks.due("the sixth", all.walker(5, 3), 5);
        Checks.due("a seventh", all.walker(6, 3), -1);
    }

    private static void ofTheShelf() {
        Edges.says("The k-th PAIR on the SHELF (0 and on); NONE when there is none such.");
        OthersShoes x = Checks.in(LAND);
        Edges.shelf(x, 2, 3, 4);
        Checks.due("shelf(-1)", x.shelf(-1), -1);
        Checks.due("shelf(8)", x.shelf(8), -1);
        OthersShoes none = Checks.in("place a;" + Edges.pairs(1) + Edges.walkers(1));
        Checks.due("of an empty one", none.shelf(0), -1);
    }

    private static void crossesFromHome() {
        Edges.says("One who CROSSES (from HOME, the SHELF not empty) gets a PAIR of the SHELF,");
        OthersShoes x = Checks.in("place a;" + Edges.pairs(2) + Edges.walkers(1));
        Checks.due("a shelf of one", x.cross(0), 1);
        Checks.due("not from home", x.cross(0), -1);
        OthersShoes y = Checks.in("place a;" + Edges.pairs(1) + Edges.walkers(1));
        Checks.due("an empty shelf", y.cross(0), -1);
        Checks.due("he stays at home", y.walker(0, 4), -1);
    }

    private static void gets(String shelf, int... byLaw) {
        OthersShoes x = Checks.in("place a;pair o size 1 pulls a by 1;" + shelf + "walker w size 20 will 1 to a in o;");
        for (int law = 0; law <= 2; law++) {
            Checks.due(shelf + " by law " + law, x.gets(0), byLaw[law]);
            Checks.due("crosses by it", x.cross(0), byLaw[law]);
            x.undo();
            x.law(law + 1);
        }
    }

    private static void laws() {
        Edges.says("by LAW 0 the one the size of which is nearest to his, of like ones the first on it, by LAW 1 of like ones the last, "
            + "by LAW 2 the first on it, whatever its size;");
        gets("pair p size 30 pulls a by 1;pair q size 21 pulls a by 1;pair r size 25 pulls a by 1;", 2, 2, 1);
        gets("pair p size 21 pulls a by 1;pair q size 21 pulls a by 1;pair r size 21 pulls a by 1;", 1, 3, 1);
        gets("pair p size 50 pulls a by 1;pair q size 19 pulls a by 1;pair r size 21 pulls a by 1;", 2, 3, 1);
        gets("pair p size 22 pulls a by 1;pair q size 21 pulls a by 1;pair r size 18 pulls a by 1;", 2, 2, 1);
        gets("pair p size 20 pulls a by 1;pair q size 19 pulls a by 1;pair r size 21 pulls a by 1;", 1, 1, 1);
        gets("pair p size 1 pulls a by 1;", 1, 1, 1);
        gets("pair p size 40 pulls a by 1;pair q size 1 pulls a by 1;pair r size 39 pulls a by 1;", 2, 3, 1);
        turnedShelf();
    }

    // Behind his crossing and coming back the shelf is r, p: the like ones stand the other way round.
    private static void turnedShelf() {
        OthersShoes x = Checks.in("place a;pair p size 9 pulls a by 1;pair q size 5 pulls a by 1;pair r size 9 pulls a by 1;"
            + "walker w size 9 will 1 to a in q;");
        x.cross(0);
        x.back(0);
        Edges.shelf(x, 1, 0);
        x.cross(0);
        Edges.shelf(x, 1, 2);
        x.back(0);
        Edges.shelf(x, 2, 0);
        Checks.due("the first on it", x.gets(0), 2);
        x.law(1);
        Checks.due("the last on it", x.gets(0), 0);
        x.law(2);
        Checks.due("the first on it", x.gets(0), 2);
    }

    private static void leavesHisOwn() {
        Edges.says("his own one comes onto the SHELF, behind all; he is at the FRONTIER, has walked no leg.");
        OthersShoes x = Checks.in(LAND);
        Checks.due("ann", x.cross(0), 2);
        Edges.shelf(x, 3, 4, 1);
        row(x, 0, 2, 0, 0, 0);
        Checks.due("bob", x.cross(1), 3);
        Edges.shelf(x, 4, 1, 0);
        x.days(1);
        Checks.due("ann walked", x.walker(0, 5), 2);
        x.back(0);
        x.cross(0);
        row(x, 0, x.walker(0, 3), 0, 0, 0);
    }

    private static void there() {
        Edges.says("THERE is who has CROSSED and is where he wants to go: he walks no more.");
        OthersShoes x = Checks.in(LAND);
        Checks.due("bob at home wants to go to the frontier", x.walker(1, 6), 0);
        Checks.due("nobody", x.has(8), 0);
        x.cross(1);
        Checks.due("there at once", x.walker(1, 6), 1);
        Checks.due("one", x.has(8), 1);
        x.cross(0);
        Checks.due("ann is not where she wants to go", x.walker(0, 6), 0);
        Checks.due("still one", x.has(8), 1);
        x.days(1);
        Checks.due("both", x.has(8), 2);
        x.days(2);
        Checks.due("ann walks no more", x.walker(0, 5), 2);
        Checks.due("bob walked none", x.walker(1, 5), 0);
        x.back(1);
        Checks.due("at home again", x.walker(1, 6), 0);
        Checks.due("one", x.has(8), 1);
    }

    private static void pullAboveStrive() {
        Edges.says("by the PULL, if that way goes on to another PLACE, and the SUM of pull is above that of strive; by the WILL else.");
        Checks.due("4 above 3", Edges.pulled("4", "3"), true);
        Checks.due("3 not above 3", Edges.pulled("3", "3"), false);
        Checks.due("2 not above 3", Edges.pulled("2", "3"), false);
        Checks.due("-1 not above 0", Edges.pulled("0-1", "0"), false);
        Checks.due("0 above -1", Edges.pulled("0", "0-1"), true);
        Checks.due("where it pulls he is: by the will", Checks.in(Edges.FORK.replace("pulls c by 5", "pulls a by 9"))
            .where(0, 0, 1), 1);
        Checks.due("by days, too", walkedDay(Edges.FORK + "pull 4;strive 3;legs 1;"), 2);
        Checks.due("by days, too", walkedDay(Edges.FORK + "pull 3;strive 3;legs 1;"), 1);
    }

    private static int walkedDay(String text) {
        OthersShoes x = Checks.in(text);
        x.cross(0);
        x.days(1);
        return x.walker(0, 4);
    }

    private static void noWayOn() {
        Edges.says("If there is no way to where he wants to go, he goes by the PULL; if there is none to where it pulls, or he is there, "
            + "by the WILL; with none of both he stays (that is a LEG, too).");
        String apart = "place a;place b;place c;place d;road a c miles 1;road c d miles 1;pair p size 1 pulls d by 0;"
            + "pair o size 1 pulls a by 0;walker w size 1 will 99 to b in o;legs 1;";
        OthersShoes x = Checks.in(apart);
        x.cross(0);
        int[] at = {2, 3, 3};
        int[] habit = {1, 2, 2};
        for (int day = 0; day < 3; day++) {
            x.days(1);
            Checks.due("by the pull, then he stays", x.walker(0, 4), at[day]);
            Checks.due("a leg, too", x.walker(0, 5), day + 1);
            Checks.due("stronger, then as it is", x.pair(0, 2), habit[day]);
        }
        OthersShoes y = Checks.in(apart.replace("to b in", "to d in").replace("pulls d by 0", "pulls b by 9"));
        y.cross(0);
        y.days(1);
        Checks.due("none to where it pulls: by the will", y.walker(0, 4), 2);
        Checks.due("as it is", y.pair(0, 2), 9);
        OthersShoes z = Checks.in(apart.replace("to b in", "to d in").replace("pulls d by 0", "pulls a by 9"));
        z.cross(0);
        z.days(1);
        Checks.due("he is there: by the will", z.walker(0, 4), 2);
        Checks.due("as it is", z.pair(0, 2), 9);
        OthersShoes none = Checks.in(apart.replace("pulls d by 0", "pulls b by 4"));
        none.cross(0);
        none.days(1);
        Checks.due("none of both: he stays", none.walker(0, 4), 0);
        Checks.due("a leg, too", none.walker(0, 5), 1);
        Checks.due("as it is", none.pair(0, 2), 4);
    }

    private static int habitBehindADay(String text) {
        OthersShoes x = Checks.in(text + "legs 1;");
        x.cross(0);
        x.days(1);
        return x.pair(0, 2);
    }

    private static void stronger() {
        Edges.says("If he goes by the PULL, or by the WILL where both go on alike, the habit is one stronger (9 at most);");
        for (int habit = 0; habit <= 9; habit++) {
            String fork = Edges.FORK.replace("pulls c by 5", "pulls c by " + habit);
            int more = Math.min(9, habit + 1);
            Checks.due("by the pull from " + habit, habitBehindADay(fork + "pull 1;strive 0;"), more);
            String alike = fork.replace("pulls c", "pulls b");
            Checks.due("by the will, both alike, from " + habit, habitBehindADay(alike + "pull 0;strive 1;"), more);
            Checks.due("by the pull, both alike, from " + habit, habitBehindADay(alike + "pull 1;strive 0;"), more);
            String noWay = fork.replace("road a b miles 1;", "");
            Checks.due("no way for the will from " + habit, habitBehindADay(noWay + "pull 0;strive 1;"), more);
        }
    }

    private static void weaker() {
        Edges.says("if he goes by the WILL elsewhere, one weaker (0 at least);");
        for (int habit = 0; habit <= 9; habit++) {
            String fork = Edges.FORK.replace("pulls c by 5", "pulls c by " + habit);
            Checks.due("by the will from " + habit, habitBehindADay(fork + "pull 0;strive 0;"), Math.max(0, habit - 1));
        }
    }

    private static void asItIs() {
        Edges.says("if he stays, or no PULL goes on, as it is.");
        for (int habit = 0; habit <= 9; habit++) {
            String fork = Edges.FORK.replace("pulls c by 5", "pulls a by " + habit);
            Checks.due("at its place, by the will, from " + habit, habitBehindADay(fork), habit);
            String apart = Edges.FORK.replace("pulls c by 5", "pulls c by " + habit).replace("road a c miles 1;", "");
            Checks.due("no way, by the will, from " + habit, habitBehindADay(apart), habit);
            String stays = apart.replace("road a b miles 1;", "");
            Checks.due("he stays, from " + habit, habitBehindADay(stays), habit);
        }
    }

    private static void mostLegs() {
        Edges.says("He has walked a LEG more (999 at most).");
        OthersShoes x = Checks.in("place a;place b;pair p size 1 pulls a by 7;pair o size 1 pulls a by 0;"
            + "walker w size 1 will 9 to b in o;legs 1;");
        Checks.due("on with 997 legs", Checks.on(x, Checks.checked(0, 0, 0, 7, 0, 0, 1, 3, 229, 1)), true);
        int[] legs = {998, 999, 999, 999};
        for (int n = 1; n <= 4; n++) {
            Checks.due("later", x.later(0, n, 1), legs[n - 1]);
        }
        for (int day = 0; day < 4; day++) {
            x.days(1);
            Checks.due("legs", x.walker(0, 5), legs[day]);
        }
    }

    private static void aDay() {
        Edges.says("A DAY: WALKERS by numbers who have CROSSED walk as many legs as told, each his, until he is THERE;");
        int[] legs = {1, 2, 3, 4, 5, 9};
        for (int many : legs) {
            OthersShoes x = Checks.in(LINE + "legs " + many + ";");
            x.days(1);
            Checks.due("at home he walks none", x.walker(0, 5), 0);
            x.cross(0);
            x.days(1);
            int due = Math.min(4, many);
            row(x, 0, 0, due, due, due == 4 ? 1 : 0);
            Checks.due("no pull goes on at first, then weaker", x.pair(0, 2), 5 - (due - 1));
        }
    }

    private static void gets() {
        Edges.says("Which PAIR a WALKER at HOME would get now, did he CROSS; NONE when he can't, or there is none such.");
        OthersShoes x = Checks.in(LAND);
        Checks.due("ann", x.gets(0), 2);
        Checks.due("bob", x.gets(1), 3);
        Checks.due("nobody", x.gets(2), -1);
        Checks.due("nobody", x.gets(-1), -1);
        Checks.due("ann stays at home", x.walker(0, 4), -1);
        Checks.due("no act", x.has(10), 0);
        Checks.due("nothing refused", x.status(2), 0);
        x.cross(0);
        Checks.due("ann has crossed", x.gets(0), -1);
        Checks.due("bob", x.gets(1), 3);
        x.back(0);
        Checks.due("ann is at home again", x.gets(0) >= 0, true);
        Checks.due("an empty shelf", Checks.in("place a;" + Edges.pairs(1) + Edges.walkers(1)).gets(0), -1);
        Checks.due("a shelf of one", Checks.in("place a;" + Edges.pairs(2) + Edges.walkers(1)).gets(0), 1);
    }
}
