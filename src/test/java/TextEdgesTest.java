import java.util.Arrays;

/** The boundaries of a LAND's text and of its FAULTS (the document's terms, I). */
public final class TextEdgesTest {
    private static final String TWO = "place a;place b;";
    private static final String PAIR = TWO + "pair p size 1 pulls a by 1;";
    private static final String OWN_WORDS = "place, road, miles, pair, size, pulls, by, walker, will, to, in, pull, strive, "
        + "law, legs, rain, habit, tight, walked, day, number, there, went, far, or, and, not, all, min, max";

    private TextEdgesTest() {
    }

    public static void main(String[] args) {
        statements();
        places();
        roads();
        roadsTwice();
        pairs();
        walkers();
        sumsOnce();
        settings();
        lastOnes();
        parts();
        choices();
        facts();
        fromTheLeft();
        division();
        limits();
        withoutSums();
        names();
        ownWords();
        unlikeNames();
        toldAhead();
        blanks();
        blanksNeeded();
        wrongBytes();
        tooSoon();
        leftOut();
        longWords();
        longNumbers();
        wrongNumbers();
        wrongNames();
        depth();
        tooMany();
        firstAlong();
        Checks.finish("TextEdgesTest");
    }

    private static void statements() {
        Edges.says("A LAND is a text: { STATEMENT ; } (80 at most):");
        Edges.sound("", 0);
        Edges.sound("law 0;".repeat(79), 79);
        Edges.sound("law 0;".repeat(80), 80);
        Edges.spoilt("law 0;".repeat(80) + "^law 0;", 5);
        Edges.spoilt("law 0;".repeat(79) + "law 0^", 1);
    }

    private static void places() {
        Edges.says("place NAME (7 PLACES; the first one is the FRONTIER);");
        Edges.sound(Edges.places(7), 7);
        Edges.spoilt(Edges.places(7) + "^place h;", 5);
        OthersShoes x = Checks.in("place z;place a;pair p size 1 pulls a by 1;pair q size 1 pulls a by 1;"
            + "walker w size 1 will 1 to a in p;");
        x.cross(0);
        Checks.due("at the first place", x.walker(0, 4), 0);
    }

    private static void roads() {
        Edges.says("road NAME NAME miles N (two unlike PLACES, not told in either order already; 1 .. 9; 12 ROADS);");
        Edges.sound(TWO + "road a b miles 1;", 3);
        Edges.sound(TWO + "road b a miles 9;", 3);
        Checks.due("1", Checks.in(TWO + "road a b miles 1;").miles(1, 0), 1);
        Checks.due("9", Checks.in(TWO + "road a b miles 9;").miles(1, 0), 9);
        Edges.spoilt(TWO + "road a b miles ^0;", 2);
        Edges.spoilt(TWO + "road a b miles ^10;", 2);
        StringBuilder twelve = new StringBuilder(Edges.places(7));
        int many = 0;
        for (char from = 'a'; from <= 'g' && many < 12; from++) {
            for (char to = (char) (from + 1); to <= 'g' && many < 12; to++) {
                twelve.append("road ").append(from).append(' ').append(to).append(" miles 1;");
                many++;
            }
        }
        Edges.sound(twelve.toString(), 19);
        Checks.due("roads", Checks.in(twelve.toString()).has(1), 12);
        Edges.spoilt(twelve + "^road f g miles 1;", 5);
    }

    private static void roadsTwice() {
        Edges.says("(the same PLACE, a ROAD told already: at the second; a PAIR that one wears), at it;");
        Edges.spoilt(TWO + "road a ^a miles 1;", 3);
        Edges.spoilt(TWO + "road b ^b miles 1;", 3);
        Edges.spoilt(TWO + "road a b miles 1;road a ^b miles 1;", 3);
        Edges.spoilt(TWO + "road a b miles 1;road b ^a miles 1;", 3);
        Edges.sound(TWO + "place c;road a b miles 1;road b c miles 1;road c a miles 1;", 6);
        Edges.spoilt(PAIR + "walker w size 1 will 1 to a in p;walker v size 1 will 1 to a in ^p;", 3);
        Edges.sound(PAIR + "pair q size 1 pulls a by 1;walker w size 1 will 1 to a in p;"
            + "walker v size 1 will 1 to a in q;", 6);
    }

    private static void pairs() {
        Edges.says("pair NAME size N pulls NAME by N (1 .. 50; a PLACE; 0 .. 9; 8 PAIRS);");
        OthersShoes x = Checks.in(TWO + "pair p size 1 pulls a by 0;pair q size 50 pulls b by 9;");
        int[][] want = {{1, 0, 0}, {50, 1, 9}};
        for (int pair = 0; pair < 2; pair++) {
            for (int what = 0; what <= 2; what++) {
                Checks.due("pair(" + pair + ", " + what + ")", x.pair(pair, what), want[pair][what]);
            }
        }
        Edges.spoilt(TWO + "pair p size ^0 pulls a by 0;", 2);
        Edges.spoilt(TWO + "pair p size ^51 pulls a by 0;", 2);
        Edges.spoilt(TWO + "pair p size 1 pulls a by ^10;", 2);
        Edges.spoilt(TWO + "pair p size 1 pulls ^c by 1;", 3);
        Edges.spoilt(PAIR + "pair q size 1 pulls ^p by 1;", 3);
        Edges.sound("place a;" + Edges.pairs(8), 9);
        Edges.spoilt("place a;" + Edges.pairs(8) + "^pair q size 1 pulls a by 1;", 5);
    }

    private static void walkers() {
        Edges.says("walker NAME size N will N to NAME in NAME (1 .. 50; 0 .. 99; a PLACE; a PAIR that none wears so far; 6 WALKERS);");
        OthersShoes x = Checks.in(PAIR + "pair q size 1 pulls a by 1;walker w size 1 will 0 to a in q;"
            + "walker v size 50 will 99 to b in p;");
        int[][] want = {{1, 0, 0, 1}, {50, 99, 1, 0}};
        for (int walker = 0; walker < 2; walker++) {
            for (int what = 0; what <= 3; what++) {
                Checks.due("walker(" + walker + ", " + what + ")", x.walker(walker, what), want[walker][what]);
            }
        }
        Edges.spoilt(PAIR + "walker w size ^0 will 1 to a in p;", 2);
        Edges.spoilt(PAIR + "walker w size ^51 will 1 to a in p;", 2);
        Edges.spoilt(PAIR + "walker w size 1 will ^100 to a in p;", 2);
        Edges.spoilt(PAIR + "walker w size 1 will 1 to ^c in p;", 3);
        Edges.spoilt(PAIR + "walker w size 1 will 1 to ^p in p;", 3);
        Edges.spoilt(PAIR + "walker w size 1 will 1 to a in ^q;", 3);
        Edges.spoilt(PAIR + "walker w size 1 will 1 to a in ^b;", 3);
        Edges.spoilt(PAIR + "walker w size 1 will 1 to a in p;walker v size 1 will 1 to a in ^p;", 3);
        Edges.sound("place a;" + Edges.pairs(7) + Edges.walkers(6), 14);
        Edges.spoilt("place a;" + Edges.pairs(7) + Edges.walkers(6) + "^walker w size 1 will 1 to a in pg;", 5);
    }

    private static void sumsOnce() {
        Edges.says("pull SUM, strive SUM (one each);");
        Edges.sound("pull 1;strive 1;", 2);
        Edges.sound("strive 1;pull 1;", 2);
        Edges.spoilt("pull 1;^pull 1;", 5);
        Edges.spoilt("strive 1;^strive 1;", 5);
        Edges.spoilt("pull 1;strive 1;^pull 1;", 5);
        Edges.spoilt("strive 1;pull 1;^strive 1;", 5);
    }

    private static void settings() {
        Edges.says("law N (0 .. 2), legs N (1 .. 9 a DAY), rain N (0 .. 100):");
        for (int law = 0; law <= 2; law++) {
            Checks.due("law", Checks.in("law " + law + ";").has(5), law);
        }
        Edges.spoilt("law ^3;", 2);
        for (int legs = 1; legs <= 9; legs++) {
            OthersShoes x = Checks.in(Edges.FORK + "legs " + legs + ";");
            x.cross(0);
            x.days(1);
            Checks.due("legs a day", x.walker(0, 5), legs);
        }
        Edges.spoilt("legs ^0;", 2);
        Edges.spoilt("legs ^10;", 2);
        // The draws of 100 from the seed 1 on are 18, 99.
        int[] rain = {0, 18, 19, 99, 100};
        int[] wet = {0, 0, 1, 1, 2};
        for (int k = 0; k < rain.length; k++) {
            OthersShoes x = Checks.in(Edges.FORK + "rain " + rain[k] + ";");
            x.cross(0);
            Checks.due("rain " + rain[k], x.chance(2), wet[k]);
        }
        Edges.spoilt("rain ^101;", 2);
    }

    private static void lastOnes() {
        Edges.says("the last one of each counts (0, 3, 0 without).");
        OthersShoes x = Checks.in("law 1;legs 9;rain 100;law 2;legs 1;rain 0;" + Edges.FORK);
        Checks.due("law 2", x.has(5), 2);
        x.cross(0);
        Checks.due("rain 0", x.chance(1), 0);
        Checks.due("legs 1", x.walker(0, 5), 1);
        OthersShoes y = Checks.in(Edges.FORK + "law 2;legs 1;rain 0;law 0;legs 4;rain 100;");
        Checks.due("law 0", y.has(5), 0);
        y.cross(0);
        y.days(1);
        Checks.due("legs 4", y.walker(0, 5), 4);
        Checks.due("rain 100", y.chance(1), 1);
        OthersShoes z = Checks.in(Edges.FORK);
        Checks.due("law 0 without", z.has(5), 0);
        z.cross(0);
        Checks.due("rain 0 without", z.chance(1), 0);
        Checks.due("legs 3 without", z.walker(0, 5), 3);
    }

    private static void parts() {
        Edges.says("PART: N (1 to 4 digits); habit; tight; walked; will; day; ( SUM ) ; min ( SUM , SUM ) ; max ( SUM , SUM ) .");
        Edges.sumIs("0", 0);
        Edges.sumIs("9999", 9999);
        Edges.sumIs("0000", 0);
        Edges.sumIs("0007", 7);
        Edges.spoilt("pull 9999^9;", 1);
        Edges.spoilt("pull 0000^0;", 1);
        Edges.spoilt("pull ^;", 1);
        for (String word : new String[] {"habit", "tight", "walked", "will", "day"}) {
            Edges.sound("pull " + word + ";strive(" + word + ");", 2);
        }
        for (String word : new String[] {"number", "size", "there", "went", "far 1", "all", "not 1", "to", "x", "habits"}) {
            Edges.spoilt("pull ^" + word + ";", 1);
        }
        Edges.spoilt("pull ^[1];", 1);
        Edges.spoilt("pull ^-1;", 1);
        Edges.spoilt("pull ^+1;", 1);
        Edges.spoilt("pull (^);", 1);
        Edges.spoilt("pull (1^;", 1);
        Edges.spoilt("pull 1^);", 1);
        Edges.spoilt("pull 1+^;", 1);
        Edges.spoilt("pull 1*^;", 1);
        Edges.spoilt("pull 1^<2;", 1);
    }

    private static void choices() {
        Edges.says("min ( SUM , SUM ) ; max ( SUM , SUM ) .");
        Edges.sumIs("min(4,9)", 4);
        Edges.sumIs("min(9,4)", 4);
        Edges.sumIs("max(4,9)", 9);
        Edges.sumIs("max(9,4)", 9);
        Edges.sumIs("min(0-4,0-9)", -9);
        Edges.sumIs("max(0-4,0-9)", -4);
        Edges.sumIs("min(2+3,2*3)", 5);
        Edges.sumIs("(2+3)*(1+1)", 10);
        Edges.spoilt("pull min ^1,2;", 1);
        Edges.spoilt("pull min(1^);", 1);
        Edges.spoilt("pull min(1,2^,3);", 1);
        Edges.spoilt("pull max(^,2);", 1);
        Edges.spoilt("pull max(1,^);", 1);
        Edges.spoilt("pull max(1,2^;", 1);
    }

    private static void facts() {
        Edges.says("(Of a PAIR how strong its habit is; of a WALKER in it how tight it is: how far its size is from his; "
            + "how many legs he has walked; his will; the DAY.)");
        Edges.sumIs("habit", 5);
        Edges.sumIs("will", 3);
        Edges.sumIs("tight", 0);
        Edges.sumIs("walked", 0);
        Edges.sumIs("day", 0);
        String[] sizes = {"size 50", "size 13", "size 7", "size 1"};
        int[] tight = {40, 3, 3, 9};
        for (int k = 0; k < sizes.length; k++) {
            String fork = Edges.FORK.replace("pair p size 10", "pair p " + sizes[k]);
            Checks.due("tight", Checks.in(fork + "pull tight;strive " + tight[k] + ";").where(0, 0, 1), 1);
            Checks.due("tight", Checks.in(fork + "pull tight;strive " + tight[k] + "-1;").where(0, 0, 1), 2);
        }
        OthersShoes x = Checks.in(Edges.FORK + "pull 5-day;strive walked;");
        for (int day = 0; day <= 5; day++) {
            // At a he has walked 0, 2, 4: he is pulled as long as that is below 5 - day.
            int[] arrives = {7, 5, 5, 3, 3, 1};
            Checks.due("day " + day, x.tries(0, 0), arrives[day]);
            x.days(1);
        }
    }

    private static void fromTheLeft() {
        Edges.says("SUM: PRODUCT { + or - PRODUCT }. PRODUCT: PART { * or / PART }.");
        Edges.sumIs("2+3*4", 14);
        Edges.sumIs("2*3+4", 10);
        Edges.sumIs("20-6/3", 18);
        Edges.says("All from the left on;");
        Edges.sumIs("9-4-2", 3);
        Edges.sumIs("9-4+2", 7);
        Edges.sumIs("16/4/2", 2);
        Edges.sumIs("16/4*2", 8);
        Edges.sumIs("3*5/4", 3);
        Edges.sumIs("5/4*3", 3);
    }

    private static void division() {
        Edges.says("/ gives the greatest whole number not above, by 0 it gives 0;");
        Edges.sumIs("7/2", 3);
        Edges.sumIs("8/2", 4);
        Edges.sumIs("(0-7)/2", -4);
        Edges.sumIs("(0-8)/2", -4);
        Edges.sumIs("7/(0-2)", -4);
        Edges.sumIs("(0-7)/(0-2)", 3);
        Edges.sumIs("(0-1)/9999", -1);
        Edges.sumIs("1/9999", 0);
        Edges.sumIs("7/0", 0);
        Edges.sumIs("(0-7)/0", 0);
        Edges.sumIs("0/0", 0);
        Edges.sumIs("7/(3-3)+1", 1);
        Edges.sumIs("1000*1000/(0-1)+1", -999999);
    }

    private static void limits() {
        Edges.says("each sum, difference, product above 10 to the 6 is that, below -10 to the 6 likewise.");
        Edges.sumIs("999*1000+999+1-1", 999999);
        Edges.sumIs("999*1000+999+2-1", 999999);
        Edges.sumIs("1000*1000-(0-1)-1", 999999);
        Edges.sumIs("1000*1000-0-1", 999999);
        Edges.sumIs("1000*1000-1", 999999);
        Edges.sumIs("1001*1000-1", 999999);
        Edges.sumIs("7*(100*1000+42*1000+857)-1", 999998);
        Edges.sumIs("7*(100*1000+42*1000+858)-1", 999999);
        Edges.sumIs("9999*9999*9999*9999-1", 999999);
        Edges.sumIs("0-999*1000-999-1+1", -999999);
        Edges.sumIs("0-999*1000-999-2+1", -999999);
        Edges.sumIs("0-1000*1000+(0-1)+1", -999999);
        Edges.sumIs("0-1000*1000+1", -999999);
        Edges.sumIs("(0-1001)*1000+1", -999999);
        Edges.sumIs("(0-7)*(100*1000+42*1000+857)+1", -999998);
        Edges.sumIs("(0-7)*(100*1000+42*1000+858)+1", -999999);
        Edges.sumIs("9999*9999*(0-9999*9999)+1", -999999);
        Edges.sumIs("(0-9999*9999)*(0-9999*9999)-1", 999999);
    }

    private static void withoutSums() {
        Edges.says("Without: pull is habit, strive is will.");
        for (int habit = 0; habit <= 9; habit++) {
            String fork = Edges.FORK.replace("pulls c by 5", "pulls c by " + habit);
            Checks.due("habit " + habit + ", will 3", Checks.in(fork).where(0, 0, 1), habit > 3 ? 2 : 1);
            Checks.due("pull alone is told", Checks.in(fork + "pull 4;").where(0, 0, 1), 2);
            Checks.due("pull alone is told", Checks.in(fork + "pull 3;").where(0, 0, 1), 1);
            Checks.due("strive alone is told", Checks.in(fork + "strive 6;").where(0, 0, 1), habit > 6 ? 2 : 1);
        }
    }

    private static void names() {
        Edges.says("NAMES: 1 to 6 letters, no OWN WORD, unlike ones (of all sorts), told ahead of where they are asked.");
        Edges.sound("place a;place z;place abcdef;place zzzzzz;", 4);
        Edges.spoilt("place ^;", 1);
        Edges.spoilt("place abcdef^g;", 1);
        Edges.spoilt("place ^1;", 1);
        Edges.spoilt("place a^1;", 1);
        Edges.spoilt("place a^_b;", 1);
        int[] others = {'a' - 1, 'z' + 1, 'A', 'Z', 200};
        for (int sign : others) {
            Edges.spoilt("place ^" + (char) sign + ";", 1);
            Edges.spoilt("place a^" + (char) sign + ";", 1);
        }
    }

    private static void ownWords() {
        Edges.says("OWN WORDS: " + OWN_WORDS + ".");
        for (String word : OWN_WORDS.split(", ")) {
            Edges.spoilt("place ^" + word + ";", 1);
            Edges.spoilt(TWO + "road ^" + word + " b miles 1;", 1);
            Edges.spoilt(TWO + "road a ^" + word + " miles 1;", 1);
            Edges.spoilt(TWO + "pair ^" + word + " size 1 pulls a by 1;", 1);
            Edges.spoilt(TWO + "pair p size 1 pulls ^" + word + " by 1;", 1);
            Edges.spoilt(PAIR + "walker ^" + word + " size 1 will 1 to a in p;", 1);
            Edges.spoilt(PAIR + "walker w size 1 will 1 to ^" + word + " in p;", 1);
            Edges.spoilt(PAIR + "walker w size 1 will 1 to a in ^" + word + ";", 1);
            if (word.length() < 6) {
                Edges.sound("place " + word + "x;", 1);
            }
            Edges.sound("place " + (word.equals("to") || word.equals("or") ? "x" : word.substring(0, word.length() - 1))
                + "q;", 1);
        }
        for (String word : "first last often total most least name place places statem".split(" ")) {
            if (!word.equals("place")) {
                Edges.sound("place " + word + ";", 1);
            }
        }
    }

    private static void unlikeNames() {
        Edges.says("3 a NAME to be given that is there already,");
        String all = PAIR + "pair q size 1 pulls a by 1;walker w size 1 will 1 to a in p;";
        for (String name : new String[] {"a", "b", "p", "q", "w"}) {
            Edges.spoilt(all + "place ^" + name + ";", 3);
            Edges.spoilt(all + "pair ^" + name + " size 1 pulls a by 1;", 3);
            Edges.spoilt(all + "walker ^" + name + " size 1 will 1 to a in q;", 3);
            Edges.sound(all + "place " + name + "a;", 6);
        }
        Edges.spoilt("place abcdef;place ^abcdef;", 3);
        Edges.sound("place abcdef;place abcdeg;place abcde;", 3);
    }

    private static void toldAhead() {
        Edges.says("one that is none of what is asked, or can't be");
        Edges.spoilt("road ^a b miles 1;place a;place b;", 3);
        Edges.spoilt("place a;road a ^b miles 1;place b;", 3);
        Edges.spoilt("pair p size 1 pulls ^a by 1;place a;", 3);
        Edges.spoilt("place a;walker w size 1 will 1 to a in ^p;pair p size 1 pulls a by 1;", 3);
        Edges.spoilt("place a;pair p size 1 pulls a by 1;walker w size 1 will 1 to ^b in p;place b;", 3);
        Edges.spoilt(PAIR + "road ^p b miles 1;", 3);
        Edges.spoilt(PAIR + "road a ^p miles 1;", 3);
        Edges.spoilt(PAIR + "walker w size 1 will 1 to a in p;road a ^w miles 1;", 3);
        Edges.spoilt(PAIR + "walker w size 1 will 1 to ^w in p;", 3);
        Edges.spoilt(PAIR + "walker w size 1 will 1 to a in ^w;", 3);
        Edges.spoilt(TWO + "pair p size 1 pulls ^p by 1;", 3);
    }

    private static void blanks() {
        Edges.says("Blanks (10, 32) are where one likes");
        Edges.sound("\n place \n a \n ; \n", 1);
        Edges.sound(" place  a ;\n", 1);
        Edges.sound("place a;place b;\nroad\na\nb\nmiles\n1\n;\n", 3);
        Edges.sound("pull ( 1 + 2 ) * min ( 3 , 4 ) / max ( 5 , 6 ) - 7 ;", 1);
        Edges.sound("pull(1+2)*min(3,4)/max(5,6)-7;", 1);
        for (int sign = 0; sign < 256; sign++) {
            boolean blank = sign == 10 || sign == 32;
            boolean word = sign >= 'a' && sign <= 'z';
            if (blank) {
                Edges.sound("law" + (char) sign + "1;", 1);
            } else if (!word && sign != ';') {
                Edges.spoilt("law 1;^" + (char) sign + "law 1;", 1);
            }
        }
    }

    private static void blanksNeeded() {
        Edges.says("(words and numbers side by side need one).");
        Edges.sound("law 1;", 1);
        Edges.spoilt("law^1;", 1);
        Edges.spoilt("place^1;", 1);
        Edges.spoilt("^placea;", 1);
        Edges.spoilt(TWO + "road a b miles^1;", 1);
        Edges.spoilt(TWO + "road a b^1;", 1);
        Edges.spoilt(TWO + "pair p size 1^pulls a by 1;", 1);
        Edges.sound(TWO + "pair p size 1 pulls a by 1;", 3);
        Edges.spoilt("pull 1 ^1;", 1);
        Edges.spoilt("pull^1;", 1);
        Edges.sound("pull(1);", 1);
        Edges.spoilt("pull habit ^will;", 1);
        Edges.spoilt("pull 1^habit;", 1);
    }

    private static void wrongBytes() {
        Edges.says("1 the first byte with which no such text goes on (words and numbers whole, at their first byte;");
        Edges.spoilt("^;", 1);
        Edges.spoilt("^plac a;", 1);
        Edges.spoilt("^places a;", 1);
        Edges.spoilt("^abcdefghijkl;", 1);
        Edges.spoilt("^12345;", 1);
        Edges.spoilt("place a ^b;", 1);
        Edges.spoilt("place a ^1;", 1);
        Edges.spoilt("place a^,", 1);
        Edges.spoilt(TWO + "road a b ^mile 1;", 1);
        Edges.spoilt(TWO + "road a b ^12345;", 1);
        Edges.spoilt(TWO + "road a b miles ^nine;", 1);
        Edges.spoilt(TWO + "pair p ^by 1;", 1);
        Edges.spoilt(PAIR + "walker w size 1 will 1 ^in p;", 1);
        Edges.says("where a NAME is asked, an OWN WORD so,");
        Edges.spoilt("place ^walker;", 1);
        Edges.spoilt("place ^by;", 1);
        Edges.spoilt("road ^strive b miles 1;", 1);
    }

    private static void tooSoon() {
        Edges.says("at the text's length, if it ends too soon);");
        String[] texts = {"place a;", TWO + "road a b miles 1;", TWO + "pair p size 1 pulls a by 1;",
            PAIR + "walker w size 1 will 1 to a in p;", "pull min(1,(habit+2));", "law 1;", "legs 1;", "rain 1;"};
        for (String text : texts) {
            int begun = text.lastIndexOf(';', text.length() - 2) + 1;
            Edges.sound(text.substring(0, begun), text.substring(0, begun).split(";", -1).length - 1);
            for (int cut = begun + 1; cut < text.length(); cut++) {
                if (" ;(,+)".indexOf(text.charAt(cut)) >= 0) {
                    Edges.spoilt(text.substring(0, cut) + "^", 1);
                    Edges.spoilt(text.substring(0, cut) + " \n^", 1);
                }
            }
        }
    }

    /** A statement that lacks one word (a name, a number), or all from it on, is spoilt at what stands there instead. */
    private static void leftOut() {
        Edges.says("1 the first byte with which no such text goes on");
        String[][] told = {{"", "place", "a"}, {TWO, "road", "a", "b", "miles", "1"},
            {TWO, "pair", "p", "size", "1", "pulls", "a", "by", "1"},
            {PAIR, "walker", "w", "size", "1", "will", "1", "to", "a", "in", "p"},
            {"", "pull", "1"}, {"", "strive", "1"}, {"", "law", "1"}, {"", "legs", "1"}, {"", "rain", "1"}};
        for (String[] words : told) {
            for (int left = 2; left < words.length; left++) {
                // Without the first name of a road the second one is taken for it, and miles is no name.
                int place = words[1].equals("road") && left == 2 ? 4 : left + 1;
                StringBuilder text = new StringBuilder(words[0]);
                for (int k = 1; k < words.length; k++) {
                    text.append(k == place ? "^" : "").append(k == left ? "" : words[k] + " ");
                }
                Edges.spoilt(text + (place == words.length ? "^;" : ";"), 1);
                Edges.spoilt(words[0] + String.join(" ", Arrays.copyOfRange(words, 1, left)) + "^;", 1);
            }
            String whole = words[0] + String.join(" ", Arrays.copyOfRange(words, 1, words.length));
            Edges.spoilt(whole + " ^law 1;", 1);
        }
    }

    private static void longWords() {
        Edges.says("a 7th letter at itself;");
        String[] ahead = {"place ", TWO + "road ", TWO + "road a ", TWO + "pair ", TWO + "pair p size 1 pulls ",
            PAIR + "walker ", PAIR + "walker w size 1 will 1 to ", PAIR + "walker w size 1 will 1 to a in "};
        for (String text : ahead) {
            Edges.spoilt(text + "abcdef^g", 1);
            Edges.spoilt(text + "abcdef^ghijkl;", 1);
            Edges.spoilt(text + "number^s;", 1);
        }
        Edges.sound("place abcdef;", 1);
        Edges.spoilt("place abcdef;place abcdef^g;", 1);
    }

    private static void longNumbers() {
        Edges.says("where a number is asked, a 5th digit at itself;");
        String[] ahead = {TWO + "road a b miles ", TWO + "pair p size ", TWO + "pair p size 1 pulls a by ",
            PAIR + "walker w size ", PAIR + "walker w size 1 will ", "law ", "legs ", "rain ", "pull ", "strive 1+"};
        for (String text : ahead) {
            Edges.spoilt(text + "0001^1", 1);
            Edges.spoilt(text + "0000^0;", 1);
            Edges.spoilt(text + "0001^234567;", 1);
        }
        Edges.sound(TWO + "road a b miles 0009;", 3);
        Edges.sound("law 0002;legs 0009;rain 0100;pull 0001;", 4);
    }

    private static void wrongNumbers() {
        Edges.says("2 a number that can't be, at it;");
        Edges.spoilt(TWO + "road a b miles  ^0000 ;", 2);
        Edges.spoilt(TWO + "road a b miles ^9999;", 2);
        Edges.spoilt("law ^0003", 2);
        Edges.spoilt("law ^3x", 2);
        Edges.spoilt("rain ^9999;", 2);
        Edges.spoilt("legs ^0;", 2);
    }

    private static void wrongNames() {
        Edges.says("3 a NAME to be given that is there already, one that is none of what is asked, or can't be");
        Edges.spoilt("place a;place ^a", 3);
        Edges.spoilt("place a;place  ^a?", 3);
        Edges.spoilt("road ^a", 3);
        Edges.spoilt("place a;road a ^a", 3);
        Edges.spoilt("place a;road a  ^c?", 3);
    }

    private static void depth() {
        Edges.says("4 the 7th ( that is open at once, at it;");
        Edges.sound("pull ((((((1))))));", 1);
        Edges.spoilt("pull ((((((^(1)))))));", 4);
        Edges.sound("pull ((((((1))))))+((((((2))))));", 1);
        Edges.spoilt("pull ((((((1))))))+((((((^(2)))))));", 4);
        Edges.sound("pull min(1,max(2,min(3,max(4,min(5,max(6,7))))));", 1);
        Edges.spoilt("pull min(1,max(2,min(3,max(4,min(5,max(6,min^(7,8)))))));", 4);
        Edges.sound("pull min(min(min(min(min(min(1,2),3),4),5),6),7);", 1);
        Edges.spoilt("pull min(min(min(min(min(min(min^(1,2),3),4),5),6),7),8);", 4);
        Edges.sound("pull (((((1)*(2))))) - (((((1)*(2)))));strive ((((((1))))));", 2);
        Edges.spoilt("strive ((((((min ^1))))));", 1);
        Edges.spoilt("strive ((((((1^(1))))));", 1);
        Edges.spoilt("strive ((((((^(", 4);
    }

    private static void tooMany() {
        Edges.says("5 one too many of a kind (a second pull, strive, too), an 81st STATEMENT (whatever stands there), at its first byte.");
        Edges.spoilt(Edges.places(7) + " \n ^place", 5);
        Edges.spoilt(Edges.places(7) + "^place a;", 5);
        Edges.spoilt(Edges.places(7) + "^places;", 1);
        Edges.spoilt("place a;" + Edges.pairs(8) + "^pair pa", 5);
        Edges.spoilt("place a;" + Edges.pairs(6) + Edges.walkers(6) + "^walker", 5);
        Edges.spoilt("pull 1;  ^pull (((((((1", 5);
        Edges.spoilt("strive 1;\n^strive?", 5);
        String eighty = "law 0;".repeat(80);
        Edges.sound(eighty + " \n", 80);
        Edges.spoilt(eighty + "^place a;", 5);
        Edges.spoilt(eighty + "  ^;", 5);
        Edges.spoilt(eighty + "\n^?", 5);
        Edges.spoilt(eighty + "^12345", 5);
        Edges.spoilt(eighty + "^nothing", 5);
        Edges.spoilt(eighty + "^" + (char) 255, 5);
        Edges.spoilt("law 0;".repeat(79) + "^?", 1);
        Edges.spoilt("law 0;".repeat(79) + "^;", 1);
    }

    private static void firstAlong() {
        Edges.says("FAULTS, the first along the text:");
        Edges.spoilt("law ^3;place a;place a;?", 2);
        Edges.spoilt("place a;place ^a;law 3;?", 3);
        Edges.spoilt("^?place a;place a;law 3;", 1);
        Edges.spoilt("pull ((((((^(1)))))));pull 1;", 4);
        Edges.spoilt("pull 1;^pull (((((((1)))))));", 5);
        Edges.spoilt(TWO + "road a ^a miles 0;", 3);
        Edges.spoilt(TWO + "pair p size ^0 pulls c by 10;", 2);
        Edges.spoilt(TWO + "pair ^a size 0 pulls c by 10;", 3);
        Edges.spoilt(PAIR + "walker w size 1 will ^100 to c in q;", 2);
        Edges.spoilt(PAIR + "walker w size 1 will 1 to ^c in q;", 3);
        Edges.spoilt("place abcdef^g;place a;place a;", 1);
    }
}
