/** The boundaries of promises 1 to 5 and 7: a new object, the tape, a land taken or refused, faults, letters. */
public final class TapeEdgesTest {
    private static final String SMALL = "place a;place b;road a b miles 3;pair p size 10 pulls b by 4;"
        + "pair q size 12 pulls a by 2;walker w size 11 will 1 to b in p;law 1;";

    private TapeEdgesTest() {
    }

    public static void main(String[] args) {
        constants();
        newObject();
        feedOrder();
        feedFull();
        end();
        landCounts();
        landRefused();
        landAnew();
        landsInTurn();
        tapeGoes();
        seedStays();
        faultAsked();
        letters();
        Checks.finish("TapeEdgesTest");
    }

    private static void constants() {
        Edges.says("`NONE = -1`: There is none; it is refused.");
        Checks.due("NONE", OthersShoes.NONE, -1);
        Edges.says("`NOTHING = -1000000000000000L`: Told where a number below 0 may be one.");
        Checks.due("NOTHING", OthersShoes.NOTHING, -1000000000000000L);
    }

    private static void newObject() {
        Edges.says("`OthersShoes()`: No land, no walkers.");
        OthersShoes x = new OthersShoes();
        for (int what = 0; what <= 10; what++) {
            Checks.due("has(" + what + ")", x.has(what), 0);
        }
        Checks.due("letter(0, 0, 0)", x.letter(0, 0, 0), -1);
        Checks.due("miles(0, 0)", x.miles(0, 0), -1);
        Checks.due("next(0, 0)", x.next(0, 0), -1);
        Checks.due("pair(0, 0)", x.pair(0, 0), -1);
        Checks.due("walker(0, 0)", x.walker(0, 0), -1);
        Checks.due("shelf(0)", x.shelf(0), -1);
        Checks.due("gets(0)", x.gets(0), -1);
        Checks.due("tries(0, 0)", x.tries(0, 0), -1);
        Checks.due("where(0, 0, 0)", x.where(0, 0, 0), -1);
        Checks.due("firm(0, 0)", x.firm(0, 0), -1);
        Checks.due("odd(0, 0, 1)", x.odd(0, 0, 1), -1);
        Checks.due("deal(-1)", x.deal(-1), 0);
        Checks.due("deal(0)", x.deal(0), -1);
        Checks.due("lawed(0)", x.lawed(0), 0);
        Checks.due("later(0, 0, 0)", x.later(0, 0, 0), -1);
        Checks.due("arrives(0)", x.arrives(0), -1);
        Checks.due("see of a place", Checks.see(x, 0, 0), -1);
        Checks.due("prints(0)", x.prints(0), 0);
        Checks.due("tells(0)", x.tells(0), -1);
        Checks.due("cross(0)", x.cross(0), -1);
        Checks.due("back(0)", x.back(0), -1);
        Checks.due("undo()", x.undo(), false);
        Checks.due("octet(0)", x.octet(0), -1);
        Checks.due("law(1)", x.law(1), true);
        Checks.due("days(1)", x.days(1), 0);
        Checks.due("chance(1)", x.chance(1), 0);
        Checks.due("day", x.has(4), 2);
    }

    private static void feedOrder() {
        Edges.says("Twenty bytes come behind those on the tape, of each number the highest first: how many there are;");
        OthersShoes x = new OthersShoes();
        // "place abc;place d; \n"
        Checks.due("feed", x.feed(0x706c6163, 0x65206162, 0x633b706c, 0x61636520, 0x643b200a), 20);
        Checks.due("feed behind it", x.feed(0x706c6163, 0x65206566, 0x673b706c, 0x61636520, 0x683b200a), 40);
        Checks.due("land", x.land(), 4);
        int[][] names = {{1, 2, 3}, {4, 0, 0}, {5, 6, 7}, {8, 0, 0}};
        for (int place = 0; place < 4; place++) {
            for (int k = 0; k < 3; k++) {
                Checks.due("letter " + k + " of " + place, x.letter(0, place, k), names[place][k]);
            }
        }
        for (int k = 0; k < 20; k++) {
            int[] five = {0x20202020, 0x20202020, 0x20202020, 0x20202020, 0x20202020};
            five[k / 4] |= 255 << 24 - k % 4 * 8;
            Checks.due("feed with a byte 255 at " + k, x.feed(five[0], five[1], five[2], five[3], five[4]), 20);
            Checks.due("land", x.land(), -1);
            Checks.due("its place", x.fault(1), k);
        }
    }

    private static void feedFull() {
        Edges.says("NONE, refused (0), if there would be more than 1600.");
        OthersShoes x = new OthersShoes();
        for (int k = 1; k <= 80; k++) {
            Checks.due("feed", x.feed(0, 0, 0, 0, 0), 20 * k);
        }
        Checks.due("none refused", x.status(0), 0);
        Checks.due("feed of 1620", x.feed(0, 0, 0, 0, 0), -1);
        Checks.due("refused", x.status(0), 1);
        Checks.due("the tape stays", x.end(1600), true);
        Checks.due("its end", x.end(1581), true);
        Checks.due("feed of 1601", x.feed(0, 0, 0, 0, 0), -1);
        Checks.due("refused", x.status(0), 2);
        Checks.due("its end", x.end(1580), true);
        Checks.due("feed of 1600", x.feed(0, 0, 0, 0, 0), 1600);
        Checks.due("refused", x.status(0), 2);
        OthersShoes y = new OthersShoes();
        Checks.due("a text of 1600 bytes", Checks.land(y, "place abcdef;" + " ".repeat(1586) + ";"), -1);
        Checks.due("read to its last byte", y.fault(1), 1599);
    }

    private static void end() {
        Edges.says("The tape has its first n bytes alone: true;");
        OthersShoes x = new OthersShoes();
        x.feed(0x706c6163, 0x6520613b, 0x706c6163, 0x6520623b, 0x3f3f3f3f);
        Checks.due("end(16)", x.end(16), true);
        Checks.due("land", x.land(), 2);
        x.feed(0x706c6163, 0x6520613b, 0x706c6163, 0x6520623b, 0x3f3f3f3f);
        Checks.due("end(8)", x.end(8), true);
        Checks.due("feed behind it", x.feed(0x706c6163, 0x6520633b, 0x20202020, 0x20202020, 0x20202020), 28);
        Checks.due("land", x.land(), 2);
        Checks.due("c is the second", x.letter(0, 1, 0), 3);
        x.feed(0x706c6163, 0x6520613b, 0x3f3f3f3f, 0x3f3f3f3f, 0x3f3f3f3f);
        Checks.due("end(0)", x.end(0), true);
        Checks.due("land of nothing", x.land(), 0);
        Edges.says("false, refused (0), if it has not so many, or n is below 0.");
        OthersShoes y = new OthersShoes();
        Checks.due("end(0) of nothing", y.end(0), true);
        Checks.due("none refused", y.status(0), 0);
        Checks.due("end(1) of nothing", y.end(1), false);
        Checks.due("refused", y.status(0), 1);
        y.feed(0, 0, 0, 0, 0);
        Checks.due("end(20) of 20", y.end(20), true);
        Checks.due("end(21) of 20", y.end(21), false);
        Checks.due("end(-1)", y.end(-1), false);
        Checks.due("end of the least number", y.end(Integer.MIN_VALUE), false);
        Checks.due("end of the greatest number", y.end(Integer.MAX_VALUE), false);
        Checks.due("refused", y.status(0), 5);
        Checks.due("the tape stays", y.feed(0, 0, 0, 0, 0), 40);
        Checks.due("end(39)", y.end(39), true);
        Checks.due("end(40) of 39", y.end(40), false);
    }

    private static void landCounts() {
        Edges.says("The tape (it goes) is THE LAND: how many STATEMENTS;");
        Edges.sound("", 0);
        Edges.sound(" \n", 0);
        Edges.sound("place a;", 1);
        Edges.sound("law 0;".repeat(80), 80);
        Edges.sound(SMALL, 7);
    }

    private static void has(OthersShoes x, int... want) {
        for (int what = 0; what < want.length; what++) {
            Checks.due("has(" + what + ")", x.has(what), want[what]);
        }
    }

    private static OthersShoes busy() {
        OthersShoes x = Checks.in(SMALL);
        Checks.due("cross", x.cross(0), 1);
        Checks.due("days", x.days(1), 1);
        Checks.due("law", x.law(2), true);
        Checks.due("see", Checks.see(x, 1, 1), 1);
        return x;
    }

    private static void landRefused() {
        Edges.says("NONE, refused (1), with a FAULT (all stays).");
        OthersShoes x = busy();
        String[] spoilt = {"x", "law 3;", "place a;place a;", "pull (((((((1)))))));", "pull 1;pull 2;",
            SMALL + SMALL, "place z;place y;pair v size 1 pulls z by 1;pair u size 1 pulls z by 1;legs 9;rain 100"};
        for (int k = 0; k < spoilt.length; k++) {
            Checks.due("land " + spoilt[k], Checks.land(x, spoilt[k]), -1);
            Checks.due("refused", x.status(1), k + 1);
        }
        has(x, 2, 1, 2, 1, 1, 2, 1, 1, 1, 1, 3);
        Checks.due("its name stays", x.letter(0, 0, 0), 1);
        Checks.due("miles stay", x.miles(0, 1), 3);
        Checks.due("where he is stays", x.walker(0, 4), 1);
        Checks.due("what is seen stays", x.prints(0), 2);
        Checks.due("undo", x.undo(), true);
        Checks.due("the law is undone", x.has(5), 1);
        Checks.due("undo", x.undo(), true);
        Checks.due("the day is undone", x.has(4), 0);
        Checks.due("no rain, three legs", x.chance(1), 0);
        Checks.due("he walks", x.walker(0, 4), 1);
    }

    private static void landAnew() {
        Edges.says("Without one all is as at first, nothing is SEEN or can be undone;");
        OthersShoes x = busy();
        Checks.due("land again", Checks.land(x, SMALL), 7);
        has(x, 2, 1, 2, 1, 0, 1, 1, 0, 0, 0, 0);
        Checks.due("at home", x.walker(0, 4), -1);
        Checks.due("no leg", x.walker(0, 5), 0);
        Checks.due("in his own", x.walker(0, 3), 0);
        Checks.due("habit as told", x.pair(1, 2), 2);
        Checks.due("undo", x.undo(), false);
        Checks.due("nothing is seen", x.prints(0), 2);
        OthersShoes y = busy();
        Checks.due("an empty land", Checks.land(y, ""), 0);
        has(y, 0, 0, 0, 0, 0, 0, 0, 0, 0, 0, 0);
        Checks.due("undo", y.undo(), false);
        OthersShoes z = Checks.in("pull 99;strive 0;legs 9;rain 100;law 2;");
        Checks.land(z, Edges.FORK);
        Checks.due("law 0 without", z.has(5), 0);
        Checks.due("pull, strive as without", z.where(0, 0, 1), 2);
        Checks.due("strive is will", z.firm(0, 0), 5);
        z.cross(0);
        Checks.due("rain 0 without", z.chance(1), 0);
        Checks.due("three legs without", z.walker(0, 5), 3);
    }

    /** What a land told is gone in the next one, in the one behind that, and whatever spoilt text came between them. */
    private static void landsInTurn() {
        Edges.says("Without one all is as at first,");
        String great = "pull 0;strive 1;legs 9;rain 100;law 2;" + Edges.places(7) + "road a g miles 1;road a f miles 9;"
            + Edges.pairs(8) + Edges.walkers(6);
        OthersShoes x = Checks.in(great);
        for (int n = 0; n < 4; n++) {
            Checks.due("a spoilt one", Checks.land(x, n % 2 == 0 ? great + "law" : "rain 100;legs 9;pull 1;?"), -1);
            Checks.due("a small one", Checks.land(x, Edges.FORK), 8);
            has(x, 3, 2, 2, 1, 0, 0, 1, 0, 0, 0, 0);
            Checks.due("no road of the great one", x.miles(0, 6), -1);
            Checks.due("pull, strive as without", x.where(0, 0, 1), 2);
            Checks.due("nobody is there", x.days(1), 0);
            Checks.due("nobody's habit is another one", x.pair(0, 2) * 10 + x.pair(1, 2), 50);
            Checks.due("cross", x.cross(0), 0);
            // The draw of 100 from this seed is 0, which is not below 0 alone.
            x.seed(42);
            Checks.due("rain 0 without", x.chance(1), 0);
            Checks.due("three legs without", x.walker(0, 5), 3);
            if (n > 1) {
                Checks.due("a great one", Checks.land(x, great), 28);
                for (int walker = 0; walker < 6; walker++) {
                    x.cross(walker);
                }
                Checks.due("six by the seed", x.chance(1), 6);
                Checks.due("all six were there ahead of it", x.days(1), 0);
                has(x, 7, 2, 8, 6, 2, 2, 2, 6, 6, 0, 8);
            }
        }
    }

    private static void tapeGoes() {
        Edges.says("The tape (it goes) is THE LAND");
        OthersShoes x = new OthersShoes();
        Checks.land(x, "place a;");
        Checks.due("gone", x.end(1), false);
        Checks.land(x, "?");
        Checks.due("gone with a fault, too", x.end(1), false);
        Edges.says("The tape (it goes) tells what is SEEN,");
        Checks.due("see", Checks.see(x, 0, 0), 1);
        Checks.due("gone", x.end(1), false);
        Checks.due("see", Checks.see(x, 0, 1), -1);
        Checks.due("gone when refused, too", x.end(1), false);
        Edges.says("The tape (it goes) is a QUESTION: its answer;");
        Checks.due("ask", Checks.ask(x, "often all"), 0);
        Checks.due("gone", x.end(1), false);
        Checks.due("ask", Checks.ask(x, "often"), OthersShoes.NOTHING);
        Checks.due("gone with a fault, too", x.end(1), false);
        Edges.says("The tape (it goes) is AN IMAGE of this LAND:");
        Checks.due("on", Checks.on(x, Checks.checked(0, 1, 0)), true);
        Checks.due("gone", x.end(1), false);
        Checks.due("on", Checks.on(x, 0, 1, 0, 0), false);
        Checks.due("gone when refused, too", x.end(1), false);
        Checks.due("no refusal but these of end", x.status(0), 8);
    }

    // The draws of 100 from the seed 1 on are 18, 99, 26, 80, 16, 14.
    private static void seedStays() {
        Edges.says("the seed stays.");
        OthersShoes x = Checks.in(Edges.FORK + "rain 19;");
        x.cross(0);
        Checks.due("18", x.chance(1), 1);
        Checks.land(x, Edges.FORK + "rain 99;");
        x.cross(0);
        Checks.due("99", x.chance(1), 0);
        Checks.land(x, Edges.FORK + "rain 27;");
        x.cross(0);
        Checks.due("26", x.chance(1), 1);
        Checks.due("spoilt", Checks.land(x, "law 5;"), -1);
        Checks.due("80", x.chance(1), 0);
    }

    private static void faultAsked() {
        Edges.says("Of the latest land() or ask(): its FAULT (what 0; 0 without, and ahead of any), its place (1; NONE without).");
        OthersShoes x = new OthersShoes();
        Checks.due("ahead of any", x.fault(0), 0);
        Checks.due("no place", x.fault(1), -1);
        Checks.land(x, "place a;law 3;");
        Checks.due("of the land", x.fault(0), 2);
        Checks.due("its place", x.fault(1), 12);
        x.see();
        x.on();
        x.end(5);
        Checks.due("no other call's", x.fault(0), 2);
        Checks.due("no other call's", x.fault(1), 12);
        Checks.ask(x, "?");
        Checks.due("of the question", x.fault(0), 1);
        Checks.due("its place", x.fault(1), 0);
        Checks.ask(x, "often all");
        Checks.due("without", x.fault(0), 0);
        Checks.due("no place", x.fault(1), -1);
        Checks.ask(x, "total (((((((1)))))))");
        Checks.due("of the question", x.fault(0), 4);
        Checks.due("its place", x.fault(1), 12);
        Checks.land(x, "place a;");
        Checks.due("without", x.fault(0), 0);
        Checks.due("no place", x.fault(1), -1);
        Edges.says("NONE for another what.");
        Checks.due("fault(2)", x.fault(2), -1);
        Checks.due("fault(-1)", x.fault(-1), -1);
        Checks.land(x, "?");
        Checks.due("fault(2)", x.fault(2), -1);
        Checks.due("fault(-1)", x.fault(-1), -1);
    }

    private static void letters() {
        Edges.says("Letter k (0 .. 5) of the NAME of a PLACE (kind 0), a PAIR (1), a WALKER (2): 1 .. 26; 0 behind it;");
        OthersShoes x = Checks.in("place a;place zebra;place abcdef;pair boots size 1 pulls a by 1;pair z size 1 pulls a by 1;"
            + "walker ann size 1 will 1 to a in boots;");
        int[] zebra = {26, 5, 2, 18, 1, 0};
        int[] boots = {2, 15, 15, 20, 19, 0};
        int[] ann = {1, 14, 14, 0, 0, 0};
        for (int k = 0; k <= 5; k++) {
            Checks.due("a", x.letter(0, 0, k), k == 0 ? 1 : 0);
            Checks.due("zebra", x.letter(0, 1, k), zebra[k]);
            Checks.due("abcdef", x.letter(0, 2, k), k + 1);
            Checks.due("boots", x.letter(1, 0, k), boots[k]);
            Checks.due("z", x.letter(1, 1, k), k == 0 ? 26 : 0);
            Checks.due("ann", x.letter(2, 0, k), ann[k]);
        }
        Edges.says("NONE when there is none such.");
        Checks.due("letter -1", x.letter(0, 2, -1), -1);
        Checks.due("letter 6", x.letter(0, 2, 6), -1);
        Checks.due("letter 6 ahead of another name", x.letter(0, 0, 6), -1);
        int[] many = {3, 2, 1};
        for (int kind = 0; kind <= 2; kind++) {
            Checks.due("the last one", x.letter(kind, many[kind] - 1, 0) > 0, true);
            Checks.due("one too far", x.letter(kind, many[kind], 0), -1);
            Checks.due("which -1", x.letter(kind, -1, 0), -1);
        }
        Checks.due("kind 3", x.letter(3, 0, 0), -1);
        Checks.due("kind -1", x.letter(-1, 0, 0), -1);
    }
}
