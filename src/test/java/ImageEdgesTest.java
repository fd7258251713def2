import java.util.Arrays;

/** The boundaries of AN IMAGE and of what is counted: promises 33 to 36. */
public final class ImageEdgesTest {
    private static final String LAND = "place a;place b;place c;road a b miles 1;road b c miles 1;"
        + "pair p size 40 pulls c by 6;pair q size 44 pulls b by 9;pair r size 38 pulls a by 0;"
        + "pair s size 42 pulls c by 2;walker ann size 40 will 7 to c in q;walker bob size 41 will 3 to a in p;"
        + "legs 1;law 2;";
    /** Day 515, law 1, habits 1 to 4, ann in s at b with 258 legs, bob at home in r; q, p on the shelf. */
    private static final int[] TOLD = {2, 3, 1, 1, 2, 3, 4, 3, 2, 1, 2, 2, 0, 0, 0, 1, 0};

    private ImageEdgesTest() {
    }

    public static void main(String[] args) {
        bytes();
        lastByte();
        howMany();
        octets();
        taken();
        nothingUndone();
        days();
        laws();
        habits();
        places();
        legs();
        legsAtHome();
        eachPairOnce();
        length();
        checked();
        allStays();
        counted();
        countedApart();
        Checks.finish("ImageEdgesTest");
    }

    private static void image(OthersShoes x, int... ahead) {
        int[] want = Checks.checked(ahead);
        Checks.due("image()", x.image(), want.length);
        for (int k = 0; k < want.length; k++) {
            Checks.due("octet(" + k + ")", x.octet(k), want[k]);
        }
        Checks.due("octet behind", x.octet(want.length), -1);
    }

    private static void bytes() {
        Edges.says("AN IMAGE: DAY (two bytes, the higher first), LAW; for each PAIR its habit; for each WALKER the PAIR he wears, "
            + "where he is and 1 (0: at HOME), legs walked (two bytes); the PAIRS on the SHELF, in their order;");
        OthersShoes x = Checks.in(LAND);
        image(x, 0, 0, 2, 6, 9, 0, 2, 1, 0, 0, 0, 0, 0, 0, 0, 2, 3);
        x.cross(0);
        image(x, 0, 0, 2, 6, 9, 0, 2, 2, 1, 0, 0, 0, 0, 0, 0, 3, 1);
        x.days(1);
        image(x, 0, 1, 2, 6, 9, 0, 2, 2, 2, 0, 1, 0, 0, 0, 0, 3, 1);
        int[] days = {255, 256, 257, 511, 512, 999};
        for (int day : days) {
            int[] told = TOLD.clone();
            told[0] = day / 256;
            told[1] = day % 256;
            Checks.due("on", Checks.on(x, Checks.checked(told)), true);
            Checks.due("day", x.has(4), day);
            image(x, told);
        }
        OthersShoes y = Checks.in("place a;place b;pair p size 1 pulls a by 7;pair o size 1 pulls a by 0;"
            + "walker w size 1 will 9 to b in o;legs 1;");
        y.cross(0);
        y.days(100);
        y.days(100);
        y.days(55);
        image(y, 0, 255, 0, 7, 0, 0, 1, 0, 255, 1);
        y.days(1);
        image(y, 1, 0, 0, 7, 0, 0, 1, 1, 0, 1);
    }

    private static void lastByte() {
        Edges.says("last a byte: all ahead from 103 on, c = (3 c + it) mod 251.");
        OthersShoes x = new OthersShoes();
        Checks.due("image()", x.image(), 4);
        // 309 mod 251 is 58, 174, 522 mod 251 is 20.
        Checks.due("octet(3)", x.octet(3), 20);
        x.law(1);
        x.image();
        Checks.due("20 and 1", x.octet(3), 21);
        x.days(2);
        x.image();
        // 309 mod 251 is 58; 174 and 2 is 176; 528 and 1 is 529, mod 251 27.
        Checks.due("with a day of 2", x.octet(3), 27);
    }

    private static void howMany() {
        Edges.says("AN IMAGE is written: how many bytes.");
        Checks.due("no land", new OthersShoes().image(), 4);
        Checks.due("a pair on the shelf", Checks.in("place a;" + Edges.pairs(1)).image(), 6);
        Checks.due("a pair worn", Checks.in("place a;" + Edges.pairs(1) + Edges.walkers(1)).image(), 9);
        OthersShoes x = Checks.in("place a;" + Edges.pairs(8) + Edges.walkers(6));
        Checks.due("the longest", x.image(), 38);
        Checks.due("its last byte", x.octet(37) >= 0, true);
        Checks.due("behind it", x.octet(38), -1);
        Checks.due("on of it", Checks.on(x, Checks.image(x)), true);
        OthersShoes shelf = Checks.in("place a;" + Edges.pairs(8));
        Checks.due("the fullest shelf", shelf.image(), 20);
        Checks.due("on of it", Checks.on(shelf, Checks.checked(0, 0, 0, 1, 1, 1, 1, 1, 1, 1, 1, 7, 6, 5, 4, 3, 2, 1, 0)), true);
        Edges.shelf(shelf, 7, 6, 5, 4, 3, 2, 1, 0);
    }

    private static void octets() {
        Edges.says("Byte k of the latest image(); NONE when there is none such.");
        OthersShoes x = Checks.in(LAND);
        Checks.due("none yet", x.octet(0), -1);
        x.image();
        Checks.due("octet(-1)", x.octet(-1), -1);
        Checks.due("octet(0)", x.octet(0), 0);
        Checks.due("octet(2)", x.octet(2), 2);
        Checks.due("octet(17)", x.octet(17) >= 0, true);
        Checks.due("octet(18)", x.octet(18), -1);
        Checks.due("octet(63)", x.octet(63), -1);
        Checks.due("octet(64)", x.octet(64), -1);
        Checks.due("the greatest number", x.octet(Integer.MAX_VALUE), -1);
        x.law(0);
        Checks.due("of the latest image()", x.octet(2), 2);
        x.image();
        Checks.due("of the latest image()", x.octet(2), 0);
        Checks.land(x, "place a;");
        x.image();
        Checks.due("a shorter one", x.octet(3) >= 0, true);
        Checks.due("behind it", x.octet(4), -1);
    }

    private static void taken() {
        Edges.says("The tape (it goes) is AN IMAGE of this LAND: true, all is as it tells, nothing can be undone;");
        OthersShoes x = Checks.in(LAND);
        Checks.due("on", Checks.on(x, Checks.checked(TOLD)), true);
        int[] has = {3, 2, 4, 2, 515, 1, 2, 1, 0, 0, 0};
        for (int what = 0; what <= 10; what++) {
            Checks.due("has(" + what + ")", x.has(what), has[what]);
        }
        int[] wearer = {-1, -1, 1, 0};
        for (int pair = 0; pair < 4; pair++) {
            Checks.due("habit", x.pair(pair, 2), pair + 1);
            Checks.due("who wears it", x.pair(pair, 3), wearer[pair]);
        }
        int[][] walkers = {{40, 7, 2, 3, 1, 258, 0}, {41, 3, 0, 2, -1, 0, 0}};
        for (int walker = 0; walker < 2; walker++) {
            for (int what = 0; what <= 6; what++) {
                Checks.due("walker(" + walker + ", " + what + ")", x.walker(walker, what), walkers[walker][what]);
            }
        }
        Edges.shelf(x, 1, 0);
        image(x, TOLD);
    }

    private static void nothingUndone() {
        Edges.says("nothing can be undone;");
        OthersShoes x = Checks.in(LAND);
        x.cross(0);
        x.days(1);
        Checks.due("a wrong one", Checks.on(x, TOLD), false);
        Checks.due("acts stay", x.has(10), 2);
        Checks.due("on", Checks.on(x, Checks.checked(TOLD)), true);
        Checks.due("acts", x.has(10), 0);
        Checks.due("undo", x.undo(), false);
        x.law(0);
        Checks.due("undo", x.undo(), true);
        Checks.due("the law of the image", x.has(5), 1);
        Checks.due("undo", x.undo(), false);
    }

    /** Whether an image is taken in which one byte (or two) is another one. */
    private static void on(boolean want, int at, int... values) {
        int[] told = TOLD.clone();
        System.arraycopy(values, 0, told, at, values.length);
        OthersShoes x = Checks.in(LAND);
        String name = "on of " + Arrays.toString(told);
        Checks.due(name, Checks.on(x, Checks.checked(told)), want);
        Checks.due(name + ": refused", x.status(5), want ? 0 : 1);
        Checks.due(name + ": day", x.has(4), want ? told[0] * 256 + told[1] : 0);
    }

    private static void days() {
        Edges.says("false, refused (5), when it is none (DAY 999, habits 9, legs 999 at most, 0 at HOME;");
        on(true, 0, 0, 0);
        on(true, 0, 3, 230);
        on(true, 0, 3, 231);
        on(false, 0, 3, 232);
        on(false, 0, 4, 0);
        on(false, 0, 255, 255);
        on(true, 0, 2, 255);
    }

    private static void laws() {
        Edges.says("AN IMAGE: DAY (two bytes, the higher first), LAW;");
        for (int law = 0; law <= 2; law++) {
            on(true, 2, law);
        }
        on(false, 2, 3);
        on(false, 2, 255);
    }

    private static void habits() {
        Edges.says("habits 9, legs 999 at most");
        for (int pair = 0; pair < 4; pair++) {
            on(true, 3 + pair, 0);
            on(true, 3 + pair, 9);
            on(false, 3 + pair, 10);
            on(false, 3 + pair, 255);
        }
    }

    private static void places() {
        Edges.says("PLACES that there are;");
        on(true, 8, 1);
        on(true, 8, 3);
        on(false, 8, 4);
        on(false, 8, 255);
        on(true, 12, 0);
        on(true, 12, 3);
        on(false, 12, 4);
        OthersShoes seven = Checks.in(Edges.places(7) + Edges.pairs(1) + Edges.walkers(1));
        Checks.due("the seventh", Checks.on(seven, Checks.checked(0, 0, 0, 0, 0, 7, 0, 0)), true);
        Checks.due("where he is", seven.walker(0, 4), 6);
        Checks.due("an eighth", Checks.on(seven, Checks.checked(0, 0, 0, 0, 0, 8, 0, 0)), false);
    }

    private static void legs() {
        Edges.says("legs 999 at most");
        on(true, 9, 0, 0);
        on(true, 9, 3, 230);
        on(true, 9, 3, 231);
        on(false, 9, 3, 232);
        on(false, 9, 4, 0);
        on(false, 9, 255, 255);
        on(true, 9, 2, 255);
    }

    private static void legsAtHome() {
        Edges.says("0 at HOME;");
        on(true, 12, 0, 0, 0);
        on(false, 12, 0, 0, 1);
        on(false, 12, 0, 1, 0);
        on(true, 12, 1, 0, 1);
        on(true, 12, 1, 1, 0);
        on(false, 8, 0);
        on(true, 8, 0, 0, 0);
    }

    private static void eachPairOnce() {
        Edges.says("each PAIR worn by one, or on the SHELF, once), all staying.");
        int[] at = {7, 11, 15, 16};
        int[] told = {3, 2, 1, 0};
        for (int k = 0; k < 4; k++) {
            for (int pair = 0; pair <= 5; pair++) {
                on(pair == told[k], at[k], pair);
            }
            on(false, at[k], 255);
        }
        on(true, 15, 0, 1);
        OthersShoes x = Checks.in(LAND);
        for (int first = 0; first < 4; first++) {
            for (int second = 0; second < 4; second++) {
                int[] turned = TOLD.clone();
                turned[at[first]] = told[second];
                turned[at[second]] = told[first];
                Checks.due("turned", Checks.on(x, Checks.checked(turned)), true);
                Checks.due("who wears it", x.walker(0, 3), turned[7]);
                Edges.shelf(x, turned[15], turned[16]);
            }
        }
    }

    private static void length() {
        Edges.says("AN IMAGE of this LAND");
        OthersShoes x = Checks.in(LAND);
        for (int length = 0; length < 40; length++) {
            Checks.due(length + " bytes", Checks.on(x, Checks.checked(Arrays.copyOf(TOLD, length))), length == TOLD.length);
        }
        Checks.due("nothing", Checks.on(x), false);
        Checks.due("refused", x.status(5), 40);
        OthersShoes bare = new OthersShoes();
        Checks.due("three bytes", Checks.on(bare, 0, 0, 0), false);
        Checks.due("four bytes", Checks.on(bare, Checks.checked(0, 9, 1)), true);
        Checks.due("day", bare.has(4), 9);
        Checks.due("five bytes", Checks.on(bare, Checks.checked(0, 9, 1, 0)), false);
        int[] image = Checks.image(x);
        Checks.land(x, "place a;" + Edges.pairs(4) + Edges.walkers(1));
        Checks.due("of another land", Checks.on(x, image), false);
    }

    private static void checked() {
        Edges.says("last a byte:");
        OthersShoes x = Checks.in(LAND);
        int[] sound = Checks.checked(TOLD);
        int last = sound[TOLD.length];
        for (int value = 0; value < 256; value++) {
            int[] told = sound.clone();
            told[TOLD.length] = value;
            if (value % 16 == 0 || Math.abs(value - last) < 3) {
                Checks.due("last byte " + value, Checks.on(x, told), value == last);
            }
        }
        for (int k = 0; k < TOLD.length; k++) {
            int[] told = sound.clone();
            told[k] ^= 1;
            Checks.due("byte " + k + " is another one", Checks.on(x, told), false);
        }
    }

    private static void allStays() {
        Edges.says("once), all staying.");
        OthersShoes x = Checks.in(LAND);
        x.cross(0);
        x.days(1);
        Checks.see(x, 1, 1);
        int[] late = Checks.checked(TOLD);
        late[TOLD.length] ^= 1;
        int[] shelf = TOLD.clone();
        shelf[16] = 1;
        int[] legs = TOLD.clone();
        legs[14] = 1;
        int[][] wrong = {{}, late, Checks.checked(shelf), Checks.checked(legs)};
        for (int[] it : wrong) {
            Checks.due("on", Checks.on(x, it), false);
            image(x, 0, 1, 2, 6, 9, 0, 2, 2, 2, 0, 1, 0, 0, 0, 0, 3, 1);
            Checks.due("acts stay", x.has(10), 2);
            Checks.due("rows stay", x.has(9), 1);
        }
        Checks.due("undo", x.undo(), true);
        Checks.due("day", x.has(4), 0);
    }

    private static void counted() {
        Edges.says("How many were refused: 0 feed(), end(); 1 land(), see(); 2 cross(), back(), law(); 3 days(), chance(); 4 undo(); "
            + "5 seed(), on(). NONE for others.");
        OthersShoes x = new OthersShoes();
        for (int what = 0; what <= 5; what++) {
            Checks.due("at first", x.status(what), 0);
        }
        Checks.due("status(6)", x.status(6), -1);
        Checks.due("status(-1)", x.status(-1), -1);
        Checks.due("the greatest number", x.status(Integer.MAX_VALUE), -1);
        Checks.due("the least number", x.status(Integer.MIN_VALUE), -1);
    }

    private static void refusedAlone(String call, OthersShoes x, int what, int many) {
        for (int k = 0; k <= 5; k++) {
            Checks.due(call + ": status(" + k + ")", x.status(k), k == what ? many : 0);
        }
    }

    private static void countedApart() {
        Edges.says("How many were refused:");
        OthersShoes x = new OthersShoes();
        for (int k = 0; k < 80; k++) {
            x.feed(0, 0, 0, 0, 0);
        }
        x.feed(0, 0, 0, 0, 0);
        refusedAlone("feed", x, 0, 1);
        x.end(1601);
        refusedAlone("end", x, 0, 2);
        OthersShoes text = new OthersShoes();
        Checks.land(text, "?");
        refusedAlone("land", text, 1, 1);
        text.see();
        refusedAlone("see", text, 1, 2);
        OthersShoes act = new OthersShoes();
        act.cross(0);
        refusedAlone("cross", act, 2, 1);
        act.back(0);
        refusedAlone("back", act, 2, 2);
        act.law(0);
        refusedAlone("law", act, 2, 3);
        OthersShoes day = new OthersShoes();
        day.days(0);
        refusedAlone("days", day, 3, 1);
        day.chance(0);
        refusedAlone("chance", day, 3, 2);
        OthersShoes undone = new OthersShoes();
        undone.undo();
        refusedAlone("undo", undone, 4, 1);
        OthersShoes other = new OthersShoes();
        other.seed(-1);
        refusedAlone("seed", other, 5, 1);
        other.on();
        refusedAlone("on", other, 5, 2);
        OthersShoes none = new OthersShoes();
        none.ask();
        none.octet(9);
        none.has(99);
        none.deal(7);
        refusedAlone("no other call", none, 0, 0);
    }
}
