/** The boundaries of AHEAD and of what is SEEN: promises 20 to 24. */
public final class AheadEdgesTest {
    /** He is pulled to and fro until the day is so great, then it is one leg to b; one leg a day. */
    private static final String DAILY = Edges.FORK + "legs 1;strive day;pull ";
    /** In p w goes to and fro by a, c; in others to b; v is there at once in all. */
    private static final String PRINTS = "place a;place b;place c;road a b miles 1;road a c miles 1;"
        + "pair p size 10 pulls c by 5;pair q size 12 pulls b by 3;pair r size 9 pulls a by 0;"
        + "pair s size 10 pulls c by 3;walker w size 10 will 3 to b in r;walker v size 10 will 3 to a in q;";

    private AheadEdgesTest() {
    }

    public static void main(String[] args) {
        sixtyDays();
        notBeyondTheLastDay();
        withoutDraws();
        later();
        arrives();
        rowsOfSeen();
        seeRefused();
        seenThere();
        prints();
        telling();
        tells();
        Checks.finish("AheadEdgesTest");
    }

    private static OthersShoes crossed(String text) {
        OthersShoes x = Checks.in(text);
        Checks.due("cross", x.cross(0), 0);
        return x;
    }

    private static void sixtyDays() {
        Edges.says("AHEAD are DAYS as they come from now on without DRAWS (60 at most, not beyond DAY 999).");
        // At a on even days: on day 58 he goes on to b, so he is there behind 59 days.
        OthersShoes x = crossed(DAILY + "58;");
        Checks.due("behind 59", x.arrives(0), 59);
        OthersShoes y = crossed(DAILY + "60;");
        Checks.due("behind 61", y.arrives(0), -1);
        Checks.due("where behind 60", y.later(0, 60, 0), 0);
        Checks.due("61 can't be", y.later(0, 61, 0), -1);
        y.days(1);
        Checks.due("at c now, on day 1: behind 60", y.arrives(0), 60);
        Checks.due("where behind 60", y.later(0, 60, 0), 1);
        y.days(1);
        Checks.due("behind 59", y.arrives(0), 59);
    }

    private static void atDay(OthersShoes x, int day) {
        Checks.due("on", Checks.on(x, Checks.checked(day / 256, day % 256, 0, 0, 0, 0, 1, 0, 0, 1)), true);
        Checks.due("day", x.has(4), day);
    }

    private static void notBeyondTheLastDay() {
        Edges.says("(60 at most, not beyond DAY 999)");
        OthersShoes x = Checks.in(Edges.FORK + "legs 1;");
        for (int day = 937; day <= 999; day++) {
            int most = Math.min(60, 999 - day);
            if (day < 942 || day > 995) {
                atDay(x, day);
                Checks.due("behind " + most, x.later(0, most, 0), most == 0 ? 0 : 1);
                Checks.due("behind one more", x.later(0, most + 1, 0), -1);
                Checks.due("arrives", x.arrives(0), most == 0 ? -1 : 1);
            }
        }
        OthersShoes y = Checks.in(DAILY + "998;");
        atDay(y, 996);
        Checks.due("a, c, a, b: behind day 999", y.arrives(0), 3);
        Checks.due("there", y.later(0, 3, 0), 1);
        OthersShoes z = Checks.in(DAILY + "999;");
        atDay(z, 996);
        Checks.due("it would be behind day 1001", z.arrives(0), -1);
        Checks.due("at c behind 3", z.later(0, 3, 0), 2);
    }

    // The draws of 100 from the seed 1 on are 18, 99.
    private static void withoutDraws() {
        Edges.says("DAYS as they come from now on without DRAWS");
        OthersShoes x = crossed(Edges.FORK.replace("pulls c by 5", "pulls c by 3") + "rain 19;");
        Checks.due("there in a day", x.arrives(0), 1);
        Checks.due("there behind a day", x.later(0, 1, 0), 1);
        Checks.due("no draw was made: 18", x.chance(1), 1);
        Checks.due("there in a day", x.arrives(0), 1);
        Checks.due("99", x.chance(1), 0);
        Checks.due("there now", x.arrives(0), 0);
    }

    private static void later() {
        Edges.says("Behind n DAYS AHEAD (0 .. 60): 0 where a WALKER is (NONE at HOME), 1 legs he has walked, 2 how strong the habit of his PAIR is. "
            + "NONE when there is none such, n can't be, or for others.");
        OthersShoes x = Checks.in(Edges.FORK + "legs 2;");
        Checks.due("at home", x.later(0, 60, 0), -1);
        Checks.due("no leg", x.later(0, 60, 1), 0);
        Checks.due("habit of his own", x.later(0, 60, 2), 0);
        x.cross(0);
        int[][] want = {{0, 0, 5}, {0, 2, 6}, {0, 4, 7}, {0, 6, 8}, {0, 8, 9}, {0, 10, 9}};
        for (int n = 0; n < want.length; n++) {
            for (int what = 0; what <= 2; what++) {
                Checks.due("later(0, " + n + ", " + what + ")", x.later(0, n, what), want[n][what]);
            }
        }
        Checks.due("behind 60", x.later(0, 60, 1), 120);
        for (int what = 0; what <= 2; what++) {
            Checks.due("n 61", x.later(0, 61, what), -1);
            Checks.due("n -1", x.later(0, -1, what), -1);
            Checks.due("walker 1", x.later(1, 0, what), -1);
            Checks.due("walker -1", x.later(-1, 0, what), -1);
        }
        Checks.due("what 3", x.later(0, 0, 3), -1);
        Checks.due("what -1", x.later(0, 0, -1), -1);
        Checks.due("the greatest number", x.later(0, Integer.MAX_VALUE, 0), -1);
        Checks.due("the day stays", x.has(4), 0);
        Checks.due("he stays", x.walker(0, 5), 0);
        Checks.due("the habit stays", x.pair(0, 2), 5);
        Checks.due("no act", x.has(10), 1);
    }

    private static void arrives() {
        Edges.says("Behind how many DAYS AHEAD (0: now) a WALKER is THERE; NONE when he is not (at HOME, too), or there is none such.");
        OthersShoes x = Checks.in(PRINTS + "law 2;legs 1;");
        Checks.due("at home", x.arrives(0), -1);
        Checks.due("at home, and wants to go to the frontier", x.arrives(1), -1);
        x.cross(1);
        Checks.due("now", x.arrives(1), 0);
        x.cross(0);
        Checks.due("in a day", x.arrives(0), 1);
        x.days(1);
        Checks.due("now", x.arrives(0), 0);
        Checks.due("walker 2", x.arrives(2), -1);
        Checks.due("walker -1", x.arrives(-1), -1);
        Checks.due("never", crossed(Edges.FORK).arrives(0), -1);
    }

    private static void rowsOfSeen() {
        Edges.says("1 to 16 rows of two bytes: LEG, PLACE: how many rows;");
        OthersShoes x = Checks.in(PRINTS);
        Checks.due("one", Checks.see(x, 0, 0), 1);
        Checks.due("rows", x.has(9), 1);
        Checks.due("sixteen", Checks.see(x, new int[32]), 16);
        Checks.due("rows", x.has(9), 16);
        Checks.due("two, and no more of those ahead", Checks.see(x, 1, 1, 2, 1), 2);
        Checks.due("rows", x.has(9), 2);
        Checks.due("none refused", x.status(1), 0);
        Checks.due("as the two rows tell", x.prints(0), 3);
        Edges.says("SEEN are rows of LEG (0 .. 30; 0: the FRONTIER), PLACE:");
        Checks.due("leg 0, the frontier", Checks.see(x, 0, 0), 1);
        Checks.due("all", x.prints(0), 8);
        Checks.due("leg 0, elsewhere", Checks.see(x, 0, 1), 1);
        Checks.due("none", x.prints(0), 0);
        Checks.due("leg 30, the last place", Checks.see(x, 30, 2), 1);
        Checks.due("none", x.prints(0), 0);
        Checks.due("leg 30, place 1", Checks.see(x, 30, 1), 1);
        Checks.due("w in q, r, s", x.prints(0), 3);
        Checks.due("leg 31", Checks.see(x, 31, 0), -1);
        Checks.due("place 3", Checks.see(x, 0, 3), -1);
        int[] lastOfSixteen = new int[32];
        lastOfSixteen[30] = 1;
        lastOfSixteen[31] = 2;
        Checks.due("sixteen", Checks.see(x, lastOfSixteen), 16);
        Checks.due("the last row counts, too", x.prints(0), 1);
    }

    private static void seeRefused() {
        Edges.says("NONE, refused (1), all staying, when it is none such.");
        OthersShoes x = Checks.in(PRINTS);
        Checks.see(x, 1, 2, 2, 0);
        int[][] none = {{}, {0}, {0, 0, 0}, new int[33], new int[34], {31, 0}, {255, 0}, {0, 3}, {0, 255}, {0, 0, 31, 0},
            {0, 0, 0, 3}, {3, 3}};
        for (int k = 0; k < none.length; k++) {
            Checks.due("see of " + none[k].length + " bytes", Checks.see(x, none[k]), -1);
            Checks.due("refused", x.status(1), k + 1);
            Checks.due("rows stay", x.has(9), 2);
            Checks.due("one is left", x.prints(0), 1);
        }
        OthersShoes bare = new OthersShoes();
        Checks.due("no place is there", Checks.see(bare, 0, 0), -1);
        OthersShoes seven = Checks.in(Edges.places(7));
        Checks.due("place 6 of 7", Checks.see(seven, 0, 6), 1);
        Checks.due("place 7 of 7", Checks.see(seven, 0, 7), -1);
    }

    private static void seenThere() {
        Edges.says("WALKERS in PAIRS by which, TRIED, all is so (behind his being THERE he is seen there).");
        OthersShoes x = Checks.in(PRINTS);
        for (int leg = 1; leg <= 30; leg++) {
            Checks.see(x, leg, 1);
            Checks.due("w is at b from leg 1 on", x.prints(0), 3);
            Checks.see(x, leg, 0);
            Checks.due("v is at a, w in p behind even legs", x.prints(0), leg % 2 == 0 ? 5 : 4);
        }
        Checks.see(x, 1, 1, 30, 1);
        Checks.due("all is so", x.prints(0), 3);
        Checks.see(x, 1, 1, 30, 0);
        Checks.due("one is not", x.prints(0), 0);
        Checks.see(x, 1, 2);
        x.law(2);
        x.cross(0);
        x.days(1);
        Checks.due("as the habits are now", x.prints(0), 1);
    }

    private static void prints(OthersShoes x, int many, int walkers, int pairs) {
        Checks.due("many", x.prints(0), many);
        Checks.due("walkers", x.prints(1), walkers);
        Checks.due("pairs", x.prints(2), pairs);
        Checks.due("prints(3)", x.prints(3), -1);
        Checks.due("prints(-1)", x.prints(-1), -1);
    }

    private static void prints() {
        Edges.says("WALKERS in PAIRS by what is SEEN (all, if nothing is): how many (what 0), WALKERS, as bits (1), PAIRS, as bits (2). "
            + "NONE for others.");
        OthersShoes x = Checks.in(PRINTS);
        prints(x, 8, 3, 15);
        Checks.see(x, 1, 1);
        prints(x, 3, 1, 14);
        Checks.see(x, 1, 2);
        prints(x, 1, 1, 1);
        Checks.see(x, 1, 0);
        prints(x, 4, 2, 15);
        Checks.see(x, 0, 1);
        prints(x, 0, 0, 0);
        prints(Checks.in("place a;" + Edges.pairs(8) + Edges.walkers(6)), 48, 63, 255);
        prints(Checks.in("place a;" + Edges.pairs(8)), 0, 0, 0);
        prints(new OthersShoes(), 0, 0, 0);
    }

    private static void tells(OthersShoes x, int leg, int most) {
        Checks.due("leg", x.tells(0), leg);
        Checks.due("most", x.tells(1), most);
        Checks.due("tells(2)", x.tells(2), -1);
        Checks.due("tells(-1)", x.tells(-1), -1);
    }

    private static void telling() {
        Edges.says("TELLING is the LEG by which, whatever the PLACE is, the most of these left are fewest; of like ones the first.");
        OthersShoes x = Checks.in(PRINTS);
        tells(x, 1, 4);
        Checks.see(x, 1, 1);
        tells(x, 0, 3);
        String fork = "place z;place a;place b;place c;road z a miles 1;road a b miles 1;road a c miles 1;"
            + "pair p size 10 pulls c by 5;pair q size 11 pulls c by 5;walker w size 10 will 3 to b in p;";
        // Both go to and fro between a and c; in q, by its size, he goes on to b at last.
        tells(Checks.in(fork + "pull 99-99*tight*(walked/29);"), 30, 1);
        tells(Checks.in(fork + "pull 99-99*tight*(walked/30);"), 0, 2);
        tells(Checks.in(fork + "pull 99-99*tight*(walked/27);"), 28, 1);
        tells(Checks.in(fork + "pull 99-99*tight;"), 2, 1);
    }

    private static void tells() {
        Edges.says("TELLING: the LEG (what 0), how many are left at the most (1). NONE when none is, or for others.");
        OthersShoes x = Checks.in(PRINTS);
        Checks.see(x, 1, 2);
        tells(x, 0, 1);
        Checks.see(x, 0, 2);
        tells(x, -1, -1);
        tells(Checks.in("place a;" + Edges.pairs(8)), -1, -1);
        tells(Checks.in("place a;" + Edges.pairs(8) + Edges.walkers(6)), 0, 48);
    }
}
