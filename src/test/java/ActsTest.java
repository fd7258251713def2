/** Promises 25 to 31: cross, back, law, days, chance, undo, seed. */
public final class ActsTest {
    private static final String LINE = "place a;place b;place c;place d;road a b miles 1;road b c miles 1;"
        + "road c d miles 1;pair p size 10 pulls d by 3;pair q size 20 pulls a by 0;pair o size 30 pulls b by 1;"
        + "pair n size 40 pulls b by 2;walker w size 12 will 5 to d in o;walker v size 21 will 5 to c in n;legs 1;";

    private ActsTest() {
    }

    public static void main(String[] args) {
        crossing();
        givingBack();
        givingBackOnAShelfOfOne();
        givingBackOnAnEmptyShelf();
        otherLaws();
        daysPass();
        habitsWearAndMend();
        legsAreNineHundredNinetyNineAtMost();
        daysEnd();
        daysInRain();
        rainForAllWhoCrossed();
        seeds();
        undone();
        Checks.finish("ActsTest");
    }

    private static void shelf(String name, OthersShoes x, int... want) {
        for (int k = 0; k < want.length; k++) {
            Checks.due(name + ": shelf(" + k + ")", x.shelf(k), want[k]);
        }
        Checks.due(name + ": shelf", x.has(6), want.length);
    }

    private static void crossing() {
        OthersShoes x = Checks.in(LINE);
        Checks.due("w gets p", x.cross(0), 0);
        shelf("his own behind all", x, 1, 2);
        Checks.due("at the frontier", x.walker(0, 4), 0);
        Checks.due("crossed", x.has(7), 1);
        Checks.due("again", x.cross(0), -1);
        Checks.due("v gets q", x.cross(1), 1);
        shelf("both", x, 2, 3);
        Checks.due("nobody", x.cross(2), -1);
        Checks.due("nobody", x.cross(-1), -1);
        Checks.due("refused", x.status(2), 3);
        Checks.due("acts", x.has(10), 2);
        OthersShoes y = Checks.in("place a;pair p size 1 pulls a by 1;walker w size 1 will 1 to a in p;");
        Checks.due("an empty shelf", y.cross(0), -1);
        Checks.due("refused", y.status(2), 1);
        Checks.due("acts", y.has(10), 0);
    }

    private static void givingBack() {
        OthersShoes x = Checks.in(LINE);
        Checks.due("at home", x.back(0), -1);
        x.cross(0);
        x.days(2);
        Checks.due("w gives p back, wears q", x.back(0), 1);
        shelf("p behind all", x, 2, 0);
        Checks.due("wears", x.walker(0, 3), 1);
        Checks.due("at home", x.walker(0, 4), -1);
        Checks.due("no leg", x.walker(0, 5), 0);
        Checks.due("p as strong as it was", x.pair(0, 2), 5);
        Checks.due("on the shelf", x.pair(0, 3), -1);
        Checks.due("again", x.back(0), -1);
        Checks.due("nobody", x.back(2), -1);
        Checks.due("nobody", x.back(-1), -1);
        Checks.due("refused", x.status(2), 4);
        Checks.due("acts", x.has(10), 3);
        Checks.due("crosses anew in p", x.cross(0), 0);
        shelf("leaves q", x, 2, 1);
    }

    private static void givingBackOnAShelfOfOne() {
        OthersShoes x = Checks.in("place a;pair p size 1 pulls a by 1;pair q size 1 pulls a by 1;"
            + "walker w size 1 will 1 to a in p;");
        Checks.due("gets q", x.cross(0), 1);
        Checks.due("is in p again", x.back(0), 0);
        shelf("q", x, 1);
    }

    private static void givingBackOnAnEmptyShelf() {
        OthersShoes x = Checks.in("place a;place b;road a b miles 1;pair p size 1 pulls a by 1;"
            + "walker w size 1 will 1 to b in p;");
        Checks.due("on", Checks.on(x, Checks.checked(0, 0, 0, 1, 0, 1, 0, 7)), true);
        Checks.due("crossed", x.walker(0, 5), 7);
        Checks.due("his pair is the first one", x.back(0), 0);
        shelf("empty", x);
        Checks.due("wears", x.walker(0, 3), 0);
        Checks.due("at home", x.walker(0, 4), -1);
        Checks.due("no leg", x.walker(0, 5), 0);
    }

    private static void otherLaws() {
        OthersShoes x = Checks.in(LINE);
        Checks.due("law 0 is that", x.law(0), false);
        Checks.due("law 3", x.law(3), false);
        Checks.due("law -1", x.law(-1), false);
        Checks.due("law 2", x.law(2), true);
        Checks.due("law", x.has(5), 2);
        Checks.due("law 2 is that", x.law(2), false);
        Checks.due("law 1", x.law(1), true);
        Checks.due("law 0", x.law(0), true);
        Checks.due("refused", x.status(2), 4);
        Checks.due("acts", x.has(10), 3);
    }

    private static void daysPass() {
        OthersShoes x = Checks.in(LINE);
        x.cross(0);
        x.cross(1);
        Checks.due("nobody is there", x.days(1), 0);
        Checks.due("w at b", x.walker(0, 4), 1);
        Checks.due("day", x.has(4), 1);
        Checks.due("v is there", x.days(1), 1);
        Checks.due("w is there", x.days(1), 1);
        Checks.due("nobody more", x.days(100), 0);
        Checks.due("day", x.has(4), 103);
        Checks.due("w walks no more", x.walker(0, 5), 3);
        Checks.due("v walks no more", x.walker(1, 5), 2);
        Checks.due("there", x.has(8), 2);
        Checks.due("acts", x.has(10), 6);
        Checks.due("0 days", x.days(0), -1);
        Checks.due("-1 days", x.days(-1), -1);
        Checks.due("101 days", x.days(101), -1);
        Checks.due("most days", x.days(Integer.MAX_VALUE), -1);
        Checks.due("refused", x.status(3), 4);
        OthersShoes y = Checks.in(LINE);
        y.cross(0);
        y.cross(1);
        Checks.due("both in one act", y.days(5), 2);
        OthersShoes z = Checks.in(LINE + "legs 9;");
        z.cross(0);
        Checks.due("nine legs a day, three walked", z.days(1), 1);
        Checks.due("walked", z.walker(0, 5), 3);
    }

    private static void habitsWearAndMend() {
        OthersShoes x = Checks.in(LINE);
        x.cross(0);
        x.cross(1);
        x.days(1);
        Checks.due("alike: p is stronger", x.pair(0, 2), 4);
        Checks.due("no pull at a: q is as it was", x.pair(1, 2), 0);
        x.days(1);
        Checks.due("by the will elsewhere: q is weaker, 0 at least", x.pair(1, 2), 0);
        String fork = "place a;place b;place c;place d;road a b miles 1;road b c miles 1;road c d miles 1;"
            + "pair p size 1 pulls a by 7;pair o size 1 pulls a by 0;walker w size 1 will 9 to d in o;legs 1;";
        OthersShoes y = Checks.in(fork);
        y.cross(0);
        int[] habit = {7, 6, 5};
        for (int day = 0; day < 3; day++) {
            y.days(1);
            Checks.due("weaker", y.pair(0, 2), habit[day]);
        }
        OthersShoes z = Checks.in(fork.replace("will 9", "will 0"));
        z.cross(0);
        int[] stronger = {7, 8, 8, 9, 9, 9, 9};
        for (int day = 0; day < 7; day++) {
            z.days(1);
            Checks.due("stronger by the pull, 9 at most", z.pair(0, 2), stronger[day]);
            Checks.due("to and fro", z.walker(0, 4), day % 2 == 0 ? 1 : 0);
        }
    }

    private static void legsAreNineHundredNinetyNineAtMost() {
        OthersShoes x = Checks.in("place a;place b;pair p size 1 pulls a by 7;pair o size 1 pulls a by 0;"
            + "walker w size 1 will 9 to b in o;legs 9;");
        x.cross(0);
        x.days(100);
        Checks.due("staying is a leg, too", x.walker(0, 5), 900);
        Checks.due("later", x.later(0, 10, 1), 990);
        Checks.due("later", x.later(0, 11, 1), 999);
        x.days(11);
        Checks.due("999", x.walker(0, 5), 999);
        x.days(1);
        Checks.due("999", x.walker(0, 5), 999);
        Checks.due("habit as it is", x.pair(0, 2), 7);
    }

    private static void daysEnd() {
        OthersShoes x = Checks.in(LINE);
        for (int k = 0; k < 9; k++) {
            x.days(100);
        }
        Checks.due("day", x.has(4), 900);
        Checks.due("100 days more can't be", x.days(100), -1);
        Checks.due("nor by the seed", x.chance(100), -1);
        Checks.due("refused", x.status(3), 2);
        Checks.due("day", x.has(4), 900);
        Checks.due("99", x.days(99), 0);
        Checks.due("day", x.has(4), 999);
        Checks.due("one more", x.days(1), -1);
        Checks.due("one more", x.chance(1), -1);
        Checks.due("day", x.has(4), 999);
    }

    // The draws of 100 from the seed 1 on are 18, 99, 26, 80, 16, 14.
    private static void daysInRain() {
        OthersShoes x = Checks.in(LINE + "rain 20;");
        x.cross(0);
        int[] wet = {1, 0, 0, 0};
        int[] where = {0, 1, 2, 3};
        for (int day = 0; day < 4; day++) {
            Checks.due("wet", x.chance(1), wet[day]);
            Checks.due("where", x.walker(0, 4), where[day]);
            Checks.due("day", x.has(4), day + 1);
        }
        OthersShoes y = Checks.in(LINE + "rain 18;");
        y.cross(0);
        Checks.due("18 is not below 18", y.chance(1), 0);
        Checks.due("he walks", y.walker(0, 4), 1);
        Checks.due("one act", y.has(10), 2);
        OthersShoes z = Checks.in(LINE + "rain 19;");
        z.cross(0);
        Checks.due("18 is below 19", z.chance(2), 1);
        Checks.due("he walks on the second day", z.walker(0, 4), 1);
        Checks.due("one act", z.has(10), 2);
        Checks.due("0 days", z.chance(0), -1);
        Checks.due("-1 days", z.chance(-1), -1);
        Checks.due("101 days", z.chance(101), -1);
        Checks.due("refused", z.status(3), 3);
        OthersShoes dry = Checks.in(LINE);
        dry.cross(0);
        Checks.due("no rain", dry.chance(100), 0);
        OthersShoes wetter = Checks.in(LINE + "rain 100;");
        wetter.cross(0);
        Checks.due("always rain", wetter.chance(100), 100);
        Checks.due("he stays", wetter.walker(0, 5), 0);
        Checks.due("days do not draw", wetter.days(1), 0);
        Checks.due("he walks", wetter.walker(0, 5), 1);
    }

    private static void rainForAllWhoCrossed() {
        OthersShoes x = Checks.in(LINE + "rain 27;");
        x.cross(0);
        x.cross(1);
        Checks.due("w 18, v 99", x.chance(1), 1);
        Checks.due("w", x.walker(0, 4), 0);
        Checks.due("v", x.walker(1, 4), 1);
        Checks.due("w 26, v 80", x.chance(1), 1);
        Checks.due("w", x.walker(0, 4), 0);
        Checks.due("v is there", x.walker(1, 6), 1);
        Checks.due("w 16, v, who is there, 14", x.chance(1), 2);
        OthersShoes y = Checks.in(LINE + "rain 27;");
        y.cross(1);
        Checks.due("v alone draws 18, 99, 26, 80, 16, 14", y.chance(6), 4);
        Checks.due("v", y.walker(1, 5), 2);
        OthersShoes nobody = Checks.in(LINE + "rain 20;");
        Checks.due("nobody has crossed", nobody.chance(50), 0);
        nobody.cross(0);
        Checks.due("no draw was made, so 18", nobody.chance(1), 1);
    }

    private static void seeds() {
        OthersShoes x = Checks.in(LINE + "rain 20;");
        Checks.due("seed -1", x.seed(-1), false);
        Checks.due("least seed", x.seed(Integer.MIN_VALUE), false);
        Checks.due("refused", x.status(5), 2);
        Checks.due("no act", x.has(10), 0);
        Checks.due("seed 1103527590", x.seed(1103527590), true);
        x.cross(0);
        Checks.due("99", x.chance(1), 0);
        x.seed(1);
        Checks.due("18", x.chance(1), 1);
        Checks.due("seed 0", x.seed(0), true);
        // 12345 / 64 is 192.
        Checks.due("92", x.chance(1), 0);
        // (1103515245 (2^31 - 1) + 12345) mod 2^31 is 1043980748, its 64th part 16312199.
        Checks.due("most seed", x.seed(Integer.MAX_VALUE), true);
        Checks.due("99", x.chance(1), 0);
        Checks.due("acts", x.has(10), 5);
    }

    private static void undone() {
        OthersShoes x = Checks.in(LINE + "rain 20;");
        Checks.due("nothing", x.undo(), false);
        Checks.due("refused", x.status(4), 1);
        x.law(2);
        x.cross(0);
        x.days(2);
        x.back(0);
        x.cross(1);
        x.chance(1);
        Checks.due("acts", x.has(10), 6);
        Checks.due("chance undone", x.undo(), true);
        Checks.due("day", x.has(4), 2);
        Checks.due("v at the frontier", x.walker(1, 4), 0);
        Checks.due("the seed stays: 99", x.chance(1), 0);
        x.undo();
        Checks.due("cross undone", x.undo(), true);
        Checks.due("v at home", x.walker(1, 4), -1);
        Checks.due("v in his own", x.walker(1, 3), 3);
        shelf("as it was", x, 2, 0);
        Checks.due("back undone", x.undo(), true);
        Checks.due("w at c", x.walker(0, 4), 2);
        Checks.due("w walked", x.walker(0, 5), 2);
        Checks.due("w in p", x.walker(0, 3), 0);
        shelf("as it was", x, 1, 2);
        Checks.due("habit", x.pair(0, 2), 5);
        Checks.due("days undone", x.undo(), true);
        Checks.due("habit", x.pair(0, 2), 3);
        Checks.due("day", x.has(4), 0);
        Checks.due("cross undone", x.undo(), true);
        shelf("as at first", x, 0, 1);
        Checks.due("law undone", x.undo(), true);
        Checks.due("law", x.has(5), 0);
        Checks.due("nothing more", x.undo(), false);
        Checks.due("refused", x.status(4), 2);
        lastTwenty();
    }

    private static void lastTwenty() {
        OthersShoes x = Checks.in(LINE);
        for (int k = 1; k <= 33; k++) {
            x.days(1);
            Checks.due("acts", x.has(10), Math.min(20, k));
        }
        x.cross(9);
        Checks.due("what is refused is no act", x.has(10), 20);
        for (int k = 1; k <= 20; k++) {
            Checks.due("undo", x.undo(), true);
            Checks.due("day", x.has(4), 33 - k);
        }
        Checks.due("no more", x.undo(), false);
        x.days(5);
        x.undo();
        Checks.due("day", x.has(4), 13);
    }
}
