/** Promises 4 to 9: land, fault, has, letter, miles, next. */
public final class LandTest {
    private static final String TWO = "place a;place b;";
    private static final String PAIR = TWO + "pair p size 1 pulls a by 1;";

    private LandTest() {
    }

    public static void main(String[] args) {
        statementsAreCounted();
        faultsOfBytes();
        faultsOfNumbers();
        faultsOfNames();
        faultsOfDepth();
        faultsOfMany();
        allStaysWithAFault();
        allIsAsAtFirstWithoutOne();
        lastSettingCounts();
        lettersOfNames();
        waysAreShortest();
        waysGoByLeastNumbers();
        Checks.finish("LandTest");
    }

    private static void counted(String text, int want) {
        OthersShoes x = new OthersShoes();
        Checks.due("land " + text, Checks.land(x, text), want);
        Checks.due("fault of " + text, x.fault(0), 0);
        Checks.due("place of " + text, x.fault(1), -1);
        Checks.due("refused of " + text, x.status(1), 0);
    }

    private static void statementsAreCounted() {
        counted("", 0);
        counted(" \n ", 0);
        counted("place a;", 1);
        counted("\nplace\na\n;\n", 1);
        counted(TWO + "road a b miles 9;", 3);
        counted(PAIR + "walker w size 50 will 99 to b in p;", 4);
        counted("pull 1+2-3*4/(5)-min(6,7)+max(habit,tight)-walked+will*day;", 1);
        counted("strive((((((habit))))));pull min(max(min(max(min(max(1,2),3),4),5),6),7);", 2);
        counted("place first;place often;place total;place most;place least;place last;", 6);
        counted("law 0;law 1;law 02;legs 9;rain 0100;rain 0;", 6);
        counted("law 0;".repeat(80), 80);
    }

    /** The fault is due where the sign ^ stands, which is no part of the text. */
    private static void faulty(String marked, int fault) {
        int place = marked.indexOf('^');
        String text = marked.substring(0, place) + marked.substring(place + 1);
        OthersShoes x = new OthersShoes();
        Checks.due("land " + text, Checks.land(x, text), -1);
        Checks.due("fault of " + text, x.fault(0), fault);
        Checks.due("place of " + text, x.fault(1), place);
        Checks.due("fault(2) of " + text, x.fault(2), -1);
        Checks.due("fault(-1) of " + text, x.fault(-1), -1);
        Checks.due("refused of " + text, x.status(1), 1);
    }

    private static void faultsOfBytes() {
        faulty("^;", 1);
        faulty("^x;", 1);
        faulty("^pla", 1);
        faulty("^places a;", 1);
        faulty("^1;", 1);
        faulty("^Place a;", 1);
        faulty("^\tplace a;", 1);
        faulty("place^", 1);
        faulty("place  \n^", 1);
        faulty("place ^;", 1);
        faulty("place^1;", 1);
        faulty("place ^1;", 1);
        faulty("place ^to;", 1);
        faulty("place ^place;", 1);
        faulty("place ^law;", 1);
        faulty("place a^{;", 1);
        faulty("place a^`;", 1);
        faulty("law 1^:;", 1);
        faulty("law ^/;", 1);
        faulty("place ^number;", 1);
        faulty("place ^max;", 1);
        faulty("place ^A;", 1);
        faulty("place a^", 1);
        faulty("place a ^", 1);
        faulty("place a^1;", 1);
        faulty("place a^A;", 1);
        faulty("place a ^b;", 1);
        faulty("place a;^;", 1);
        faulty("place abcdef^g;", 1);
        faulty("place number^s;", 1);
        faulty("place abcdef^ghijk;", 1);
        faulty("place a;road abcdef^g a miles 1;", 1);
        faulty("place a;road ^road a miles 1;", 1);
        faulty(TWO + "road a b ^mile 1;", 1);
        faulty(TWO + "road a b ^milesx 1;", 1);
        faulty(TWO + "road a b miles^1;", 1);
        faulty(TWO + "road a b miles ^x;", 1);
        faulty(TWO + "road a b miles 1^", 1);
        faulty(TWO + "road a b miles 1 ^1;", 1);
        faulty(TWO + "road a b miles 1234^5;", 1);
        faulty(TWO + "road a b miles 0000^1;", 1);
        faulty(TWO + "pair p size 1^pulls a by 1;", 1);
        faulty(TWO + "pair p size 1 pulls a ^1;", 1);
        faulty(PAIR + "walker w size 1 will 1 to a ^p;", 1);
        faulty(PAIR + "walker w size 1 ^to a in p;", 1);
        faulty("pull^;", 1);
        faulty("pull^1;", 1);
        faulty("pull ^-1;", 1);
        faulty("pull 1 + ^;", 1);
        faulty("pull 1 ^2;", 1);
        faulty("pull habit^2;", 1);
        faulty("pull 2^habit;", 1);
        faulty("pull ^size;", 1);
        faulty("pull ^far 1;", 1);
        faulty("pull ^there;", 1);
        faulty("pull ^somethinglong;", 1);
        faulty("pull (1^;", 1);
        faulty("pull (1^,2);", 1);
        faulty("pull 1^);", 1);
        faulty("pull min ^1;", 1);
        faulty("pull min(1^);", 1);
        faulty("pull max(1,2^,3);", 1);
        faulty("pull 1234^5;", 1);
        faulty("law ^;", 1);
        faulty("legs 3^", 1);
        faulty("rain 1;^;", 1);
    }

    private static void faultsOfNumbers() {
        faulty(TWO + "road a b miles ^0;", 2);
        faulty(TWO + "road a b miles ^10;", 2);
        faulty(TWO + "road a b miles ^10", 2);
        faulty(TWO + "road a b miles ^0x", 2);
        faulty(TWO + "pair p size ^0 pulls a by 1;", 2);
        faulty(TWO + "pair p size ^51 pulls a by 1;", 2);
        faulty(TWO + "pair p size 1 pulls a by ^10;", 2);
        faulty(PAIR + "walker w size ^0 will 1 to a in p;", 2);
        faulty(PAIR + "walker w size ^51 will 1 to a in p;", 2);
        faulty(PAIR + "walker w size 50 will ^100 to a in p;", 2);
        faulty("law ^3;", 2);
        faulty("legs ^0;", 2);
        faulty("legs ^10;", 2);
        faulty("rain ^101;", 2);
        faulty("rain ^9999;", 2);
    }

    private static void faultsOfNames() {
        faulty("place a;place ^a;", 3);
        faulty(PAIR + "place ^p;", 3);
        faulty(PAIR + "pair ^b size 1 pulls a by 1;", 3);
        faulty(PAIR + "pair ^p size 1 pulls a by 1;", 3);
        faulty(PAIR + "walker ^p size 1 will 1 to a in p;", 3);
        faulty(PAIR + "walker ^a size 1 will 1 to a in p;", 3);
        faulty(PAIR + "walker w size 1 will 1 to a in p;place ^w;", 3);
        faulty("road ^a b miles 1;", 3);
        faulty("place a;road a ^b miles 1;", 3);
        faulty("place a;road a ^a miles 1;", 3);
        faulty(TWO + "road a b miles 1;road a ^b miles 2;", 3);
        faulty(TWO + "road a b miles 1;road b ^a miles 2;", 3);
        faulty(PAIR + "road a ^p miles 1;", 3);
        faulty(PAIR + "pair q size 1 pulls ^p by 1;", 3);
        faulty(PAIR + "walker w size 1 will 1 to ^p in p;", 3);
        faulty(PAIR + "walker w size 1 will 1 to ^w in p;", 3);
        faulty(PAIR + "walker w size 1 will 1 to a in ^a;", 3);
        faulty(PAIR + "walker w size 1 will 1 to a in ^q;", 3);
        faulty(PAIR + "walker w size 1 will 1 to a in p;walker v size 1 will 1 to a in ^p;", 3);
    }

    private static void faultsOfDepth() {
        faulty("pull ((((((^(1)))))));", 4);
        faulty("strive min(1,(((((max^(1,2)))))));", 4);
        faulty("pull ((((((1))))))+((((((^(1)))))));", 4);
        faulty("pull ((((((max ^1))))));", 1);
        faulty("pull min((((((^(1;", 4);
        faulty("pull min(1,(((((^(1;", 4);
    }

    private static void faultsOfMany() {
        String places = "place a;place b;place c;place d;place e;place f;place g;";
        faulty(places + "^place h;", 5);
        faulty(places + " ^place", 5);
        faulty(places + "^places h;", 1);
        String roads = "road a b miles 1;road a c miles 1;road a d miles 1;road a e miles 1;road a f miles 1;"
            + "road a g miles 1;road b c miles 1;road b d miles 1;road b e miles 1;road b f miles 1;road b g miles 1;"
            + "road c d miles 1;";
        faulty(places + roads + "^road c e miles 1;", 5);
        String pairs = "";
        String walkers = "";
        for (char c = 'a'; c <= 'h'; c++) {
            pairs += "pair p" + c + " size 1 pulls a by 1;";
            walkers += c <= 'f' ? "walker w" + c + " size 1 will 1 to a in p" + c + ";" : "";
        }
        faulty(places + pairs + "^pair q size 1 pulls a by 1;", 5);
        faulty(places + pairs + walkers + "^walker w size 1 will 1 to a in pg;", 5);
        counted(places + roads + pairs + walkers, 33);
        faulty("pull 1;^pull 2;", 5);
        faulty("strive 1;pull 1;^strive 2;", 5);
        faulty("law 0;".repeat(80) + "^law 0;", 5);
        faulty("law 0;".repeat(80) + " \n^?", 5);
        faulty("law 0;".repeat(80) + "^;", 5);
        faulty("law 0;".repeat(80) + "^1", 5);
        faulty("law 0;".repeat(79) + "^1", 1);
        counted("law 0;".repeat(80) + " \n", 80);
    }

    private static final String SMALL = "place a;place b;road a b miles 3;pair p size 10 pulls b by 4;"
        + "pair q size 12 pulls a by 2;walker w size 11 will 1 to b in p;law 1;";

    private static void allStaysWithAFault() {
        OthersShoes x = Checks.in(SMALL);
        Checks.due("cross", x.cross(0), 1);
        Checks.due("days", x.days(2), 1);
        Checks.due("see", Checks.see(x, 1, 1), 1);
        Checks.due("spoilt land", Checks.land(x, "place c;place c;"), -1);
        int[] want = {2, 1, 2, 1, 2, 1, 1, 1, 1, 1, 2};
        for (int what = 0; what <= 10; what++) {
            Checks.due("has(" + what + ")", x.has(what), want[what]);
        }
        Checks.due("has(11)", x.has(11), -1);
        Checks.due("has(-1)", x.has(-1), -1);
        Checks.due("letter", x.letter(0, 0, 0), 1);
        Checks.due("refused", x.status(1), 1);
        Checks.due("undo", x.undo(), true);
        Checks.due("day", x.has(4), 0);
    }

    private static void allIsAsAtFirstWithoutOne() {
        OthersShoes x = Checks.in(SMALL + "rain 50;");
        x.seed(77);
        x.cross(0);
        x.chance(3);
        x.law(2);
        Checks.see(x, 0, 0);
        x.image();
        x.undo();
        x.cross(7);
        Checks.due("land again", Checks.land(x, SMALL), 7);
        int[] want = {2, 1, 2, 1, 0, 1, 1, 0, 0, 0, 0};
        for (int what = 0; what <= 10; what++) {
            Checks.due("again has(" + what + ")", x.has(what), want[what]);
        }
        Checks.due("habit", x.pair(1, 2), 2);
        Checks.due("wears", x.walker(0, 3), 0);
        Checks.due("where", x.walker(0, 4), -1);
        Checks.due("undo", x.undo(), false);
        Checks.due("refusals stay counted", x.status(2), 1);
        nothingIsLeftOfFormerTexts(x);
        seedStaysBehindALand();
    }

    private static void nothingIsLeftOfFormerTexts(OthersShoes x) {
        String full = SMALL + "pull 50;strive 3;legs 9;rain 100;law 2;";
        for (int k = 0; k < 2; k++) {
            Checks.due("full", Checks.land(x, full), 12);
            Checks.due("cross", x.cross(0), 1);
            Checks.due("he walks", x.days(1), 1);
            Checks.due("spoilt behind all of it", Checks.land(x, full.replace("law 2;", "law 3;")), -1);
        }
        for (int k = 0; k < 2; k++) {
            Checks.due("places alone", Checks.land(x, "place a;place b;"), 2);
            int[] bare = {2, 0, 0, 0, 0, 0, 0, 0, 0, 0, 0};
            for (int what = 0; what <= 10; what++) {
                Checks.due("places alone has(" + what + ")", x.has(what), bare[what]);
            }
            Checks.due("no way", x.miles(0, 1), -1);
        }
        String fork = "place a;place b;place c;place d;place e;road a b miles 1;road b d miles 1;road d e miles 1;"
            + "road a c miles 1;pair p size 10 pulls c by 4;pair q size 12 pulls c by 2;"
            + "walker w size 11 will 2 to e in p;law 2;";
        Checks.due("as without pull and strive", Checks.land(x, fork), 13);
        Checks.due("no leg", x.walker(0, 5), 0);
        Checks.due("by the will", x.tries(0, 1), 3);
        Checks.due("by the pull", x.tries(0, 0), -1);
        x.cross(0);
        Checks.due("no rain", x.chance(1), 0);
        Checks.due("three legs", x.walker(0, 5), 3);
    }

    private static void seedStaysBehindALand() {
        String text = SMALL + "rain 50;";
        OthersShoes x = Checks.in(text);
        x.seed(99);
        Checks.land(x, text);
        OthersShoes y = Checks.in(text);
        y.seed(99);
        OthersShoes z = Checks.in(text);
        x.cross(0);
        y.cross(0);
        z.cross(0);
        boolean unlike = false;
        for (int n = 1; n <= 20; n++) {
            int due = y.chance(1);
            Checks.due("chance by the seed kept", x.chance(1), due);
            unlike |= z.chance(1) != due;
        }
        Checks.due("another seed draws otherwise", unlike, true);
    }

    private static void lastSettingCounts() {
        OthersShoes x = Checks.in("law 2;law 1;legs 9;legs 2;" + SMALL.replace("law 1;", ""));
        Checks.due("law", x.has(5), 1);
        x = Checks.in("place a;place b;place c;place d;place e;road a b miles 1;road b c miles 1;road c d miles 1;"
            + "road d e miles 1;pair p size 1 pulls e by 0;pair q size 1 pulls e by 0;"
            + "walker w size 1 will 1 to e in p;");
        Checks.due("law without", x.has(5), 0);
        x.cross(0);
        x.days(1);
        Checks.due("three legs without", x.walker(0, 4), 3);
        Checks.due("walked", x.walker(0, 5), 3);
        Checks.due("no rain without", x.chance(1), 0);
    }

    private static void lettersOfNames() {
        OthersShoes x = Checks.in("place a;place zebra;place abcdef;pair boots size 1 pulls a by 1;"
            + "walker ann size 1 will 1 to a in boots;");
        int[] zebra = {26, 5, 2, 18, 1, 0};
        int[] ann = {1, 14, 14, 0, 0, 0};
        for (int k = 0; k < 6; k++) {
            Checks.due("zebra", x.letter(0, 1, k), zebra[k]);
            Checks.due("abcdef", x.letter(0, 2, k), k + 1);
            Checks.due("ann", x.letter(2, 0, k), ann[k]);
        }
        Checks.due("boots", x.letter(1, 0, 4), 19);
        Checks.due("letter -1", x.letter(0, 1, -1), -1);
        Checks.due("letter 6", x.letter(0, 1, 6), -1);
        Checks.due("place -1", x.letter(0, -1, 0), -1);
        Checks.due("place 3", x.letter(0, 3, 0), -1);
        Checks.due("pair 1", x.letter(1, 1, 0), -1);
        Checks.due("walker 1", x.letter(2, 1, 0), -1);
        Checks.due("kind 3", x.letter(3, 0, 0), -1);
        Checks.due("kind -1", x.letter(-1, 0, 0), -1);
    }

    private static void waysAreShortest() {
        OthersShoes x = Checks.in("place a;place b;place c;place d;place e;place f;"
            + "road a b miles 9;road a c miles 2;road c d miles 2;road d b miles 2;road e f miles 1;");
        Checks.due("miles a b", x.miles(0, 1), 6);
        Checks.due("miles b a", x.miles(1, 0), 6);
        Checks.due("next a b", x.next(0, 1), 2);
        Checks.due("next b a", x.next(1, 0), 3);
        Checks.due("miles c b", x.miles(2, 1), 4);
        Checks.due("miles a a", x.miles(0, 0), 0);
        Checks.due("next a a", x.next(0, 0), -1);
        Checks.due("miles e f", x.miles(4, 5), 1);
        Checks.due("next f e", x.next(5, 4), 4);
        Checks.due("no way", x.miles(0, 4), -1);
        Checks.due("no next", x.next(0, 4), -1);
        Checks.due("miles from -1", x.miles(-1, 0), -1);
        Checks.due("miles to 6", x.miles(0, 6), -1);
        Checks.due("miles from 6 to 6", x.miles(6, 6), -1);
        Checks.due("next to -1", x.next(0, -1), -1);
        Checks.due("next from 6", x.next(6, 0), -1);
        OthersShoes y = Checks.in("place a;place b;place c;place d;place e;place f;place g;road a b miles 1;"
            + "road g b miles 1;");
        Checks.due("miles to the seventh", y.miles(0, 6), 2);
        Checks.due("miles to 7", y.miles(0, 7), -1);
        Checks.due("miles from 7", y.miles(7, 0), -1);
        Checks.due("next to 7", y.next(0, 7), -1);
        Checks.due("next from 7", y.next(7, 0), -1);
    }

    private static void waysGoByLeastNumbers() {
        OthersShoes x = Checks.in("place a;place b;place c;place d;place e;"
            + "road a e miles 1;road a c miles 2;road a b miles 3;road e d miles 3;road c d miles 2;road b d miles 1;");
        Checks.due("three ways of four miles", x.miles(0, 3), 4);
        Checks.due("by the least", x.next(0, 3), 1);
        Checks.due("and back", x.next(3, 0), 1);
        Checks.due("not the straight road", Checks.in("place a;place b;place c;road a c miles 2;road a b miles 1;"
            + "road b c miles 1;").next(0, 2), 1);
        Checks.due("the straight road", Checks.in("place a;place c;place b;road a c miles 2;road a b miles 1;"
            + "road b c miles 1;").next(0, 1), 1);
    }
}
