/** Promises 22 to 24: see, prints, tells. */
public final class FootprintsTest {
    private static final String FORK = "place a;place b;place c;road a b miles 1;road a c miles 1;"
        + "pair p size 10 pulls c by 5;pair q size 12 pulls b by 3;pair r size 9 pulls a by 0;"
        + "pair s size 10 pulls c by 3;walker w size 10 will 3 to b in r;walker v size 10 will 3 to a in q;";

    private FootprintsTest() {
    }

    public static void main(String[] args) {
        rowsAreTaken();
        rowsAreRefused();
        whoItWas();
        whatTellsMost();
        seenStays();
        Checks.finish("FootprintsTest");
    }

    private static void prints(String name, OthersShoes x, int many, int walkers, int pairs) {
        Checks.due(name + ": many", x.prints(0), many);
        Checks.due(name + ": walkers", x.prints(1), walkers);
        Checks.due(name + ": pairs", x.prints(2), pairs);
        Checks.due(name + ": 3", x.prints(3), -1);
        Checks.due(name + ": -1", x.prints(-1), -1);
    }

    private static void tells(String name, OthersShoes x, int leg, int most) {
        Checks.due(name + ": leg", x.tells(0), leg);
        Checks.due(name + ": most", x.tells(1), most);
        Checks.due(name + ": 2", x.tells(2), -1);
        Checks.due(name + ": -1", x.tells(-1), -1);
    }

    private static void rowsAreTaken() {
        OthersShoes x = Checks.in(FORK);
        Checks.due("one row", Checks.see(x, 0, 0), 1);
        Checks.due("rows", x.has(9), 1);
        Checks.due("sixteen rows", Checks.see(x, new int[32]), 16);
        Checks.due("rows", x.has(9), 16);
        Checks.due("leg 30, place 2", Checks.see(x, 30, 2), 1);
        Checks.due("rows", x.has(9), 1);
        Checks.due("refused", x.status(1), 0);
    }

    private static void rowsAreRefused() {
        OthersShoes x = Checks.in(FORK);
        Checks.due("two rows", Checks.see(x, 0, 0, 1, 2), 2);
        Checks.due("none", x.see(), -1);
        Checks.due("a byte", Checks.see(x, 0), -1);
        Checks.due("three bytes", Checks.see(x, 0, 0, 0), -1);
        Checks.due("17 rows", Checks.see(x, new int[34]), -1);
        Checks.due("leg 31", Checks.see(x, 0, 0, 31, 0), -1);
        Checks.due("leg 255", Checks.see(x, 255, 0), -1);
        Checks.due("place 3", Checks.see(x, 0, 0, 0, 3), -1);
        Checks.due("place 255", Checks.see(x, 0, 255), -1);
        Checks.due("refused", x.status(1), 8);
        Checks.due("rows stay", x.has(9), 2);
        prints("as seen", x, 1, 1, 1);
    }

    // w walks a c a c .. in p, else a b; v is there at once.
    private static void whoItWas() {
        OthersShoes x = Checks.in(FORK);
        prints("nothing seen", x, 8, 3, 15);
        Checks.see(x, 0, 0);
        prints("at the frontier", x, 8, 3, 15);
        Checks.see(x, 1, 1);
        prints("at b", x, 3, 1, 14);
        Checks.see(x, 30, 1);
        prints("still there", x, 3, 1, 14);
        Checks.see(x, 29, 2);
        prints("at c", x, 1, 1, 1);
        Checks.see(x, 30, 0);
        prints("at a", x, 5, 3, 15);
        Checks.see(x, 30, 0, 1, 0);
        prints("at a twice", x, 4, 2, 15);
        Checks.see(x, 30, 0, 30, 1);
        prints("at two places at once", x, 0, 0, 0);
    }

    private static void whatTellsMost() {
        OthersShoes x = Checks.in(FORK);
        tells("nothing seen: a 4, b 3, c 1 behind leg 1", x, 1, 4);
        Checks.see(x, 2, 0);
        tells("four of v, one of w", x, 1, 4);
        Checks.see(x, 1, 1);
        tells("three alike", x, 0, 3);
        Checks.see(x, 1, 2);
        tells("one", x, 0, 1);
        Checks.see(x, 0, 2);
        tells("none", x, -1, -1);
        OthersShoes y = Checks.in("place a;place b;place c;road a b miles 1;road b c miles 1;pair p size 1 pulls a by 9;"
            + "pair q size 1 pulls a by 0;pair r size 1 pulls a by 0;walker w size 1 will 0 to c in p;pull habit;");
        // In q: b (no pull at a), then c, as 0 is not above 0; so in r; in p to and fro.
        tells("later legs tell", y, 2, 2);
        OthersShoes z = Checks.in("place z;place a;place b;place c;road z a miles 1;road a b miles 1;road a c miles 1;"
            + "pair p size 10 pulls c by 5;pair q size 11 pulls c by 5;walker w size 10 will 3 to b in p;"
            + "pull 99-99*tight*(walked/29);");
        // To and fro between a and c in both, until in q the pull fails at a behind leg 29.
        tells("the last leg tells", z, 30, 1);
    }

    private static void seenStays() {
        OthersShoes x = Checks.in(FORK + "law 2;legs 1;");
        Checks.see(x, 1, 2);
        prints("at first", x, 1, 1, 1);
        x.cross(0);
        x.days(1);
        x.undo();
        x.undo();
        Checks.due("rows behind acts", x.has(9), 1);
        x.image();
        Checks.due("on", Checks.on(x, Checks.image(x)), true);
        Checks.due("rows behind on", x.has(9), 1);
        x.cross(0);
        x.days(1);
        Checks.due("p is stronger", x.pair(0, 2), 6);
        prints("as habits are now", x, 1, 1, 1);
        Checks.land(x, FORK);
        Checks.due("rows behind a land", x.has(9), 0);
        prints("all again", x, 8, 3, 15);
    }
}
