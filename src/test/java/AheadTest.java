/** Promises 20 and 21: later, arrives. */
public final class AheadTest {
    private static final String LINE = "place a;place b;place c;place d;place e;road a b miles 1;road b c miles 1;"
        + "road c d miles 1;road d e miles 1;pair p size 1 pulls e by 3;pair q size 1 pulls a by 8;"
        + "pair o size 1 pulls a by 9;pair n size 1 pulls a by 9;"
        + "walker w size 1 will 10 to e in o;walker v size 1 will 0 to e in n;legs 2;law 2;";

    private AheadTest() {
    }

    public static void main(String[] args) {
        daysAhead();
        whenHeArrives();
        theDayCounts();
        theLastDay();
        Checks.finish("AheadTest");
    }

    private static void daysAhead() {
        OthersShoes x = Checks.in(LINE + "rain 100;");
        Checks.due("at home", x.later(0, 5, 0), -1);
        Checks.due("at home, legs", x.later(0, 5, 1), 0);
        Checks.due("at home, habit", x.later(0, 5, 2), 9);
        x.cross(0);
        int[] where = {0, 2, 4, 4};
        int[] legs = {0, 2, 4, 4};
        int[] habit = {3, 5, 7, 7};
        for (int n = 0; n <= 3; n++) {
            Checks.due("where behind " + n, x.later(0, n, 0), where[n]);
            Checks.due("legs behind " + n, x.later(0, n, 1), legs[n]);
            Checks.due("habit behind " + n, x.later(0, n, 2), habit[n]);
        }
        Checks.due("behind 60", x.later(0, 60, 0), 4);
        Checks.due("behind 61", x.later(0, 61, 0), -1);
        Checks.due("behind -1", x.later(0, -1, 0), -1);
        Checks.due("what 3", x.later(0, 1, 3), -1);
        Checks.due("what -1", x.later(0, 1, -1), -1);
        Checks.due("walker 2", x.later(2, 1, 0), -1);
        Checks.due("walker -1", x.later(-1, 1, 0), -1);
        Checks.due("all stays", x.walker(0, 4), 0);
        Checks.due("the day stays", x.has(4), 0);
        Checks.due("the habit stays", x.pair(0, 2), 3);
    }

    private static void whenHeArrives() {
        OthersShoes x = Checks.in(LINE);
        Checks.due("at home", x.arrives(0), -1);
        x.cross(0);
        x.cross(1);
        Checks.due("in two days", x.arrives(0), 2);
        Checks.due("he is pulled back to a for ever", x.arrives(1), -1);
        x.days(1);
        Checks.due("in one day", x.arrives(0), 1);
        x.days(1);
        Checks.due("now", x.arrives(0), 0);
        Checks.due("arrives(2)", x.arrives(2), -1);
        Checks.due("arrives(-1)", x.arrives(-1), -1);
    }

    private static void theDayCounts() {
        OthersShoes x = Checks.in(LINE.replace("legs 2", "legs 1") + "strive day/2;pull 20;");
        x.law(0);
        x.law(2);
        x.cross(0);
        x.cross(1);
        Checks.due("pulls alike with the will", x.arrives(0), 4);
        // At b on odd days: on day 41 the pull of 20 is no more above 41/2, so to c, on day 42 to d, on day 43 to e.
        Checks.due("to and fro, then three legs", x.arrives(1), 44);
        Checks.due("to and fro until then", x.later(1, 39, 0), 1);
        Checks.due("to and fro until then", x.later(1, 40, 0), 0);
        Checks.due("and on", x.later(1, 41, 0), 1);
        OthersShoes y = Checks.in(LINE.replace("legs 2", "legs 1") + "strive day/3;pull 20;");
        y.cross(0);
        y.cross(1);
        Checks.due("beyond 60 days", y.arrives(1), -1);
        y.days(3);
        Checks.due("61 days", y.arrives(1), -1);
        Checks.due("a leg ahead of it", y.later(1, 60, 0), 3);
        y.days(1);
        Checks.due("60 days", y.arrives(1), 60);
        Checks.due("there", y.later(1, 60, 0), 4);
    }

    private static void theLastDay() {
        OthersShoes x = Checks.in("place a;place b;road a b miles 1;pair p size 1 pulls a by 0;"
            + "pair q size 1 pulls a by 0;walker w size 1 will 0 to b in p;");
        Checks.due("on", Checks.on(x, Checks.checked(3, 229, 0, 0, 0, 1, 1, 0, 0, 0)), true);
        Checks.due("day 997", x.has(4), 997);
        Checks.due("later 2", x.later(0, 2, 0), 1);
        Checks.due("later 3 is beyond day 999", x.later(0, 3, 0), -1);
        Checks.due("arrives", x.arrives(0), 1);
        Checks.due("on", Checks.on(x, Checks.checked(3, 231, 0, 0, 0, 1, 1, 0, 0, 0)), true);
        Checks.due("later 0", x.later(0, 0, 0), 0);
        Checks.due("later 1", x.later(0, 1, 0), -1);
        Checks.due("no day is left", x.arrives(0), -1);
    }
}
