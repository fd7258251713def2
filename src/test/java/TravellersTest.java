/** Promises 10 to 13: pair, walker, shelf, gets. */
public final class TravellersTest {
    private static final String LAND = "place a;place b;place c;road a b miles 1;road b c miles 1;"
        + "pair p size 40 pulls c by 6;pair q size 44 pulls b by 9;pair r size 38 pulls a by 0;"
        + "pair s size 42 pulls c by 2;pair t size 42 pulls c by 3;"
        + "walker ann size 40 will 7 to c in q;walker bob size 41 will 3 to a in p;";

    private TravellersTest() {
    }

    public static void main(String[] args) {
        pairsAsTold();
        walkersAsTold();
        shelfByNumbers();
        getsByLaw();
        likeOnesByTheirOrder();
        getsNothing();
        Checks.finish("TravellersTest");
    }

    private static void row(String name, int[] got, int... want) {
        for (int k = 0; k < want.length; k++) {
            Checks.due(name + " " + k, got[k], want[k]);
        }
    }

    private static int[] pair(OthersShoes x, int pair) {
        int[] row = new int[6];
        for (int what = -1; what < 5; what++) {
            row[what + 1] = x.pair(pair, what);
        }
        return row;
    }

    private static int[] walker(OthersShoes x, int walker) {
        int[] row = new int[9];
        for (int what = -1; what < 8; what++) {
            row[what + 1] = x.walker(walker, what);
        }
        return row;
    }

    private static void pairsAsTold() {
        OthersShoes x = Checks.in(LAND);
        row("p", pair(x, 0), -1, 40, 2, 6, 1, -1);
        row("q", pair(x, 1), -1, 44, 1, 9, 0, -1);
        row("r", pair(x, 2), -1, 38, 0, 0, -1, -1);
        row("no pair", pair(x, 5), -1, -1, -1, -1, -1, -1);
        row("no pair", pair(x, -1), -1, -1, -1, -1, -1, -1);
        x.cross(0);
        Checks.due("ann left q", x.pair(1, 3), -1);
        Checks.due("ann wears r", x.pair(2, 3), 0);
        x.days(1);
        Checks.due("at a, where r pulls, as it is; then weaker", x.pair(2, 2), 0);
    }

    private static void walkersAsTold() {
        OthersShoes x = Checks.in(LAND);
        row("ann", walker(x, 0), -1, 40, 7, 2, 1, -1, 0, 0, -1);
        row("bob", walker(x, 1), -1, 41, 3, 0, 0, -1, 0, 0, -1);
        row("nobody", walker(x, 2), -1, -1, -1, -1, -1, -1, -1, -1, -1);
        row("nobody", walker(x, -1), -1, -1, -1, -1, -1, -1, -1, -1, -1);
        x.cross(1);
        row("bob there at once", walker(x, 1), -1, 41, 3, 0, 3, 0, 0, 1, -1);
        x.cross(0);
        row("ann at the frontier", walker(x, 0), -1, 40, 7, 2, 0, 0, 0, 0, -1);
        x.days(1);
        row("ann there", walker(x, 0), -1, 40, 7, 2, 0, 2, 2, 1, -1);
    }

    private static void shelfByNumbers() {
        OthersShoes x = Checks.in(LAND);
        int[] want = {2, 3, 4};
        for (int k = 0; k < 3; k++) {
            Checks.due("shelf(" + k + ")", x.shelf(k), want[k]);
        }
        Checks.due("shelf(3)", x.shelf(3), -1);
        Checks.due("shelf(-1)", x.shelf(-1), -1);
        x.cross(1);
        int[] then = {2, 4, 0};
        for (int k = 0; k < 3; k++) {
            Checks.due("then shelf(" + k + ")", x.shelf(k), then[k]);
        }
    }

    private static void getsByLaw() {
        OthersShoes x = Checks.in(LAND);
        Checks.due("ann by law 0: r, s, t are as near", x.gets(0), 2);
        Checks.due("bob by law 0: s, t are nearest", x.gets(1), 3);
        x.law(1);
        Checks.due("ann by law 1", x.gets(0), 4);
        Checks.due("bob by law 1", x.gets(1), 4);
        x.law(2);
        Checks.due("ann by law 2", x.gets(0), 2);
        Checks.due("bob by law 2", x.gets(1), 2);
        Checks.due("bob still at home", x.walker(1, 4), -1);
    }

    // Behind bob's crossing and back the shelf is t, p, s: the like ones s and t stand the other way round.
    private static void likeOnesByTheirOrder() {
        OthersShoes x = Checks.in(LAND.replace("walker ann size 40", "walker ann size 42"));
        x.cross(1);
        x.law(2);
        x.back(1);
        int[] want = {4, 0, 3};
        for (int k = 0; k < 3; k++) {
            Checks.due("turned shelf(" + k + ")", x.shelf(k), want[k]);
        }
        x.law(0);
        Checks.due("first of like ones", x.gets(0), 4);
        x.law(1);
        Checks.due("last of like ones", x.gets(0), 3);
    }

    private static void getsNothing() {
        OthersShoes x = Checks.in(LAND);
        Checks.due("gets(2)", x.gets(2), -1);
        Checks.due("gets(-1)", x.gets(-1), -1);
        x.cross(0);
        Checks.due("gets of one who crossed", x.gets(0), -1);
        OthersShoes y = Checks.in("place a;pair p size 1 pulls a by 1;walker w size 1 will 1 to a in p;");
        Checks.due("gets of an empty shelf", y.gets(0), -1);
    }
}
