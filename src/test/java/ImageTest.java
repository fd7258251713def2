import java.util.Arrays;

/** Promises 33 to 36: image, octet, on, status. */
public final class ImageTest {
    private static final String LAND = "place a;place b;place c;road a b miles 1;road b c miles 1;"
        + "pair p size 40 pulls c by 6;pair q size 44 pulls b by 9;pair r size 38 pulls a by 0;"
        + "pair s size 42 pulls c by 2;walker ann size 40 will 7 to c in q;walker bob size 41 will 3 to a in p;"
        + "legs 1;law 2;";

    private ImageTest() {
    }

    public static void main(String[] args) {
        imageAtFirst();
        imageBehindActs();
        latestImageAlone();
        takenOn();
        edgesTakenOn();
        refused();
        nothingCanBeUndone();
        anotherLand();
        refusalsAreCounted();
        Checks.finish("ImageTest");
    }

    private static void image(String name, OthersShoes x, int... ahead) {
        int[] want = Checks.checked(ahead);
        Checks.due(name + ": how many", x.image(), want.length);
        for (int k = 0; k < want.length; k++) {
            Checks.due(name + ": octet(" + k + ")", x.octet(k), want[k]);
        }
        Checks.due(name + ": octet behind", x.octet(want.length), -1);
        Checks.due(name + ": octet(-1)", x.octet(-1), -1);
    }

    private static void imageAtFirst() {
        OthersShoes x = new OthersShoes();
        Checks.due("no image yet", x.octet(0), -1);
        image("no land", x, 0, 0, 0);
        Checks.due("103 three times by 3, mod 251", x.octet(3), 20);
        image("land", Checks.in(LAND), 0, 0, 2, 6, 9, 0, 2, 1, 0, 0, 0, 0, 0, 0, 0, 2, 3);
    }

    private static void imageBehindActs() {
        OthersShoes x = Checks.in(LAND);
        x.cross(0);
        x.days(1);
        image("ann at b in r", x, 0, 1, 2, 6, 9, 0, 2, 2, 2, 0, 1, 0, 0, 0, 0, 3, 1);
        x.days(100);
        x.days(100);
        x.days(100);
        x.law(1);
        image("day 301", x, 1, 45, 1, 6, 9, 0, 2, 2, 3, 0, 2, 0, 0, 0, 0, 3, 1);
        OthersShoes z = new OthersShoes();
        z.days(100);
        z.days(100);
        z.days(56);
        image("day 256", z, 1, 0, 0);
        OthersShoes y = Checks.in("place a;place b;pair p size 1 pulls a by 7;pair o size 1 pulls a by 0;"
            + "walker w size 1 will 9 to b in o;legs 9;");
        y.cross(0);
        y.days(100);
        image("900 legs", y, 0, 100, 0, 7, 0, 0, 1, 3, 132, 1);
    }

    private static void latestImageAlone() {
        OthersShoes x = Checks.in(LAND);
        x.image();
        x.days(1);
        Checks.due("as it was", x.octet(1), 0);
        Checks.land(x, "place a;");
        Checks.due("the latest image() stays", x.octet(3), 6);
        Checks.due("shorter", x.image(), 4);
        Checks.due("behind it", x.octet(4), -1);
    }

    private static final int[] TOLD = {2, 3, 1, 1, 2, 3, 4, 3, 2, 1, 2, 2, 0, 0, 0, 1, 0};

    private static void takenOn() {
        OthersShoes x = Checks.in(LAND);
        Checks.see(x, 0, 0);
        Checks.due("on", Checks.on(x, Checks.checked(TOLD)), true);
        int[] has = {3, 2, 4, 2, 515, 1, 2, 1, 0, 1, 0};
        for (int what = 0; what <= 10; what++) {
            Checks.due("has(" + what + ")", x.has(what), has[what]);
        }
        for (int pair = 0; pair < 4; pair++) {
            Checks.due("habit", x.pair(pair, 2), pair + 1);
        }
        Checks.due("ann wears", x.walker(0, 3), 3);
        Checks.due("ann at", x.walker(0, 4), 1);
        Checks.due("ann walked", x.walker(0, 5), 258);
        Checks.due("bob wears", x.walker(1, 3), 2);
        Checks.due("bob at home", x.walker(1, 4), -1);
        Checks.due("shelf", x.shelf(0), 1);
        Checks.due("shelf", x.shelf(1), 0);
        image("the same again", x, TOLD);
        Checks.due("on of its own image", Checks.on(x, Checks.image(x)), true);
        Checks.due("nothing refused", x.status(5), 0);
    }

    private static int[] with(int k, int value) {
        int[] row = TOLD.clone();
        row[k] = value;
        return row;
    }

    private static void edgesTakenOn() {
        OthersShoes x = Checks.in(LAND);
        int[] most = {3, 231, 2, 9, 9, 9, 9, 3, 3, 3, 231, 2, 1, 3, 231, 1, 0};
        Checks.due("all at the most", Checks.on(x, Checks.checked(most)), true);
        Checks.due("day", x.has(4), 999);
        Checks.due("legs", x.walker(0, 5), 999);
        Checks.due("there", x.has(8), 2);
        Checks.due("crossed with no leg", Checks.on(x, Checks.checked(0, 0, 0, 0, 0, 0, 0, 3, 1, 0, 0, 2, 1, 0, 0, 1, 0)),
            true);
        Checks.due("in their own", Checks.on(x, Checks.checked(0, 0, 0, 0, 0, 0, 0, 1, 1, 0, 0, 0, 1, 0, 0, 3, 2)), true);
    }

    private static void refusedOn(OthersShoes x, String name, int... image) {
        int before = x.status(5);
        Checks.due(name, Checks.on(x, image), false);
        Checks.due(name + ": refused", x.status(5), before + 1);
    }

    private static void refused() {
        OthersShoes x = Checks.in(LAND);
        x.cross(0);
        x.days(1);
        int[] sound = Checks.checked(TOLD);
        refusedOn(x, "nothing");
        refusedOn(x, "too short", Arrays.copyOf(sound, sound.length - 1));
        refusedOn(x, "too short by one, checked", Checks.checked(Arrays.copyOf(TOLD, TOLD.length - 1)));
        refusedOn(x, "too long", Arrays.copyOf(sound, sound.length + 1));
        refusedOn(x, "too long by one, checked", Checks.checked(Arrays.copyOf(TOLD, TOLD.length + 1)));
        int[] unchecked = sound.clone();
        unchecked[sound.length - 1] = (unchecked[sound.length - 1] + 1) % 251;
        refusedOn(x, "a wrong last byte", unchecked);
        int[] above = sound.clone();
        above[1] = 4;
        refusedOn(x, "a wrong day for the last byte", above);
        int[] day = with(0, 3);
        day[1] = 232;
        refusedOn(x, "day 1000", Checks.checked(day));
        refusedOn(x, "day 65000", Checks.checked(with(0, 253)));
        refusedOn(x, "law 3", Checks.checked(with(2, 3)));
        refusedOn(x, "law 255", Checks.checked(with(2, 255)));
        refusedOn(x, "habit 10", Checks.checked(with(3, 10)));
        refusedOn(x, "habit 10 of the last", Checks.checked(with(6, 10)));
        refusedOn(x, "a pair worn twice", Checks.checked(with(7, 2)));
        refusedOn(x, "a pair worn and on the shelf", Checks.checked(with(15, 2)));
        refusedOn(x, "a pair twice on the shelf", Checks.checked(with(15, 0)));
        refusedOn(x, "no such pair worn", Checks.checked(with(7, 4)));
        refusedOn(x, "no such pair on the shelf", Checks.checked(with(16, 4)));
        refusedOn(x, "no such place", Checks.checked(with(8, 4)));
        refusedOn(x, "place 254", Checks.checked(with(8, 255)));
        refusedOn(x, "legs at home", Checks.checked(with(14, 1)));
        refusedOn(x, "many legs at home", Checks.checked(with(13, 1)));
        int[] legs = with(9, 3);
        legs[10] = 232;
        refusedOn(x, "1000 legs", Checks.checked(legs));
        image("all stays", x, 0, 1, 2, 6, 9, 0, 2, 2, 2, 0, 1, 0, 0, 0, 0, 3, 1);
        Checks.due("acts stay", x.has(10), 2);
        Checks.due("undo", x.undo(), true);
    }

    private static void nothingCanBeUndone() {
        OthersShoes x = Checks.in(LAND);
        x.cross(0);
        x.days(1);
        Checks.due("on", Checks.on(x, Checks.checked(TOLD)), true);
        Checks.due("acts", x.has(10), 0);
        Checks.due("undo", x.undo(), false);
        x.law(0);
        Checks.due("undo", x.undo(), true);
        Checks.due("law", x.has(5), 1);
        Checks.due("undo", x.undo(), false);
    }

    private static void anotherLand() {
        OthersShoes x = Checks.in(LAND);
        int[] image = Checks.image(x);
        Checks.land(x, "place a;pair p size 1 pulls a by 1;");
        refusedOn(x, "an image of another land", image);
        Checks.due("its own", Checks.on(x, Checks.checked(0, 7, 0, 9, 0)), true);
        Checks.due("habit", x.pair(0, 2), 9);
        Checks.due("day", x.has(4), 7);
    }

    private static void refusalsAreCounted() {
        OthersShoes x = new OthersShoes();
        x.end(1);
        x.see();
        Checks.land(x, "x");
        x.cross(0);
        x.back(0);
        x.law(0);
        x.days(0);
        x.days(0);
        x.chance(0);
        x.chance(0);
        x.undo();
        x.undo();
        x.undo();
        x.undo();
        x.undo();
        for (int k = 0; k < 3; k++) {
            x.seed(-1);
            x.on();
        }
        x.ask();
        for (int what = 0; what < 6; what++) {
            Checks.due("status(" + what + ")", x.status(what), what + 1);
        }
        Checks.due("status(6)", x.status(6), -1);
        Checks.due("status(-1)", x.status(-1), -1);
        Checks.land(x, LAND);
        for (int what = 0; what < 6; what++) {
            Checks.due("behind a land status(" + what + ")", x.status(what), what + 1);
        }
    }
}
