/** The boundaries of a QUESTION and of its FAULTS: the document's terms, IV, with promise 32. */
public final class QuestionEdgesTest {
    private static final String LAND = "place a;place b;place c;place d;road a b miles 2;road b c miles 3;"
        + "pair p size 40 pulls c by 6;pair q size 44 pulls b by 9;pair r size 38 pulls a by 0;"
        + "pair s size 42 pulls c by 2;walker ann size 40 will 7 to c in q;walker bob size 41 will 3 to a in p;"
        + "walker cid size 45 will 99 to d in r;legs 1;law 2;";

    private QuestionEdgesTest() {
    }

    public static void main(String[] args) {
        firstLastOften();
        totalMostLeast();
        nobody();
        tests();
        facts();
        signs();
        parts();
        words();
        far();
        sums();
        limits();
        unknownWords();
        behind();
        tooSoon();
        depth();
        depthEnds();
        nothingWithAFault();
        Checks.finish("QuestionEdgesTest");
    }

    private static void answer(OthersShoes x, String question, long want) {
        Edges.answer(x, question, want);
    }

    private static void firstLastOften() {
        Edges.says("first TEST, last TEST (the first, the last WALKER for whom it holds), often TEST (for how many),");
        String[] tests = {"all", "not all", "number=0", "number=1", "number=2", "number<2", "number>0", "not number=1", "number=3"};
        int[] first = {0, -1, 0, 1, 2, 0, 1, 0, -1};
        int[] last = {2, -1, 0, 1, 2, 1, 2, 2, -1};
        int[] often = {3, 0, 1, 1, 1, 2, 2, 2, 0};
        OthersShoes x = Checks.in(LAND);
        for (int k = 0; k < tests.length; k++) {
            answer(x, "first " + tests[k], first[k]);
            answer(x, "last " + tests[k], last[k]);
            answer(x, "often " + tests[k], often[k]);
        }
        Edges.says("NONE of first, last, when its TEST holds for none;");
        answer(x, "first size>45", -1);
        answer(x, "first size>44", 2);
        answer(x, "last size<40", -1);
        answer(x, "last size<41", 0);
    }

    private static void totalMostLeast() {
        Edges.says("total SUM (of all together), most SUM, least SUM (the greatest, the least of all; 0 without WALKERS).");
        OthersShoes x = Checks.in(LAND);
        answer(x, "total will", 109);
        answer(x, "most will", 99);
        answer(x, "least will", 3);
        answer(x, "total 0-will", -109);
        answer(x, "most 0-will", -3);
        answer(x, "least 0-will", -99);
        answer(x, "total number-1", 0);
        answer(x, "most 0-1", -1);
        answer(x, "least 1", 1);
        OthersShoes one = Checks.in(Edges.FORK);
        answer(one, "total will", 3);
        answer(one, "most 0-will", -3);
        answer(one, "least will", 3);
    }

    private static void nobody() {
        Edges.says("(the greatest, the least of all; 0 without WALKERS)");
        for (OthersShoes x : new OthersShoes[] {new OthersShoes(), Checks.in("place a;" + Edges.pairs(8))}) {
            answer(x, "most 5", 0);
            answer(x, "most 0-5", 0);
            answer(x, "least 5", 0);
            answer(x, "least 0-5", 0);
            answer(x, "total 5", 0);
            answer(x, "often all", 0);
            answer(x, "first all", -1);
            answer(x, "last all", -1);
        }
    }

    private static void tests() {
        Edges.says("TEST: BOTH { or BOTH }. BOTH: FACT { and FACT }.");
        OthersShoes x = Checks.in(LAND);
        answer(x, "often all or all and not all", 3);
        answer(x, "often not all and all or all", 3);
        answer(x, "often [all or all] and not all", 0);
        answer(x, "often number=0 or number=1 or number=2", 3);
        answer(x, "often number<2 and number>0 and all", 1);
        answer(x, "often number=0 and all or number=2 and all", 2);
        answer(x, "often not all or not all", 0);
    }

    private static void facts() {
        Edges.says("FACT: not FACT; [ TEST ] ; all; SUM SIGN SUM,");
        OthersShoes x = Checks.in(LAND);
        answer(x, "often not number=0 and number<2", 1);
        answer(x, "often not [number=0 and number<2]", 2);
        answer(x, "often not not number=0", 1);
        answer(x, "often not all or number=1", 1);
        answer(x, "often [[all]]", 3);
        answer(x, "often(number)+1=2", 1);
        Edges.unanswered("often ^", 1);
        Edges.unanswered("often [^]", 1);
        Edges.unanswered("often [all^)", 1);
        Edges.unanswered("often (^all)", 1);
        Edges.unanswered("often (1^=1)", 1);
        Edges.unanswered("often 1^", 1);
        Edges.unanswered("often 1^all", 1);
        Edges.unanswered("often 1 ^all", 1);
        Edges.unanswered("often all^=1", 1);
        Edges.unanswered("often not ^", 1);
        Edges.unanswered("often all and ^", 1);
        Edges.unanswered("often all or ^or all", 1);
        Edges.unanswered("total ^all", 1);
        Edges.unanswered("total 1^=1", 1);
        Edges.unanswered("total ^not 1", 1);
        Edges.unanswered("total ^[1]", 1);
    }

    private static void signs() {
        Edges.says("SIGN < or > or = .");
        OthersShoes x = Checks.in(LAND);
        int[] wants = {0, 1, 2};
        for (int k : wants) {
            answer(x, "often number<" + k, k);
            answer(x, "often number>" + k, 2 - k);
            answer(x, "often number=" + k, 1);
        }
        answer(x, "often 0-1<0", 3);
        answer(x, "often 0<0-1", 0);
        answer(x, "often 0>0-1", 3);
        Edges.unanswered("often 1<^=1", 1);
        Edges.unanswered("often 1=^=1", 1);
        Edges.unanswered("often 1^!=1", 1);
        Edges.unanswered("often ^<1", 1);
        Edges.unanswered("often 1<^", 1);
        Edges.unanswered("often 1<2^<3", 1);
    }

    private static void parts() {
        Edges.says("SUM as in I, but PART: N; number; size; will; habit; tight; walked; day; went; there; far PART; ( SUM ) ; "
            + "min ( SUM , SUM ) ; max ( SUM , SUM ) .");
        OthersShoes x = Checks.in(LAND);
        answer(x, "most 0", 0);
        answer(x, "most 9999", 9999);
        answer(x, "most 0001", 1);
        answer(x, "most(size)", 45);
        answer(x, "most min(size,41)", 41);
        answer(x, "least max(size,41)", 41);
        Edges.unanswered("most 9999^9", 1);
        Edges.unanswered("most 0000^0", 1);
        for (String word : "place road miles pair pulls by walker to in pull strive law legs rain or and not all".split(" ")) {
            Edges.unanswered("most ^" + word, 1);
        }
        Edges.unanswered("most min^", 1);
        Edges.unanswered("most min ^1", 1);
        Edges.unanswered("most min(1^)", 1);
        Edges.unanswered("most max(1,2^,3)", 1);
        Edges.unanswered("most ^-1", 1);
        Edges.unanswered("most (^)", 1);
    }

    // ann gets s, bob q; bob is there at once; behind a day ann is at b, s one stronger.
    private static void words() {
        Edges.says("(His number, size, will; of the PAIR he wears the habit, how tight it is; legs walked; 1 if he has CROSSED, else 0; "
            + "1 if he is THERE, else 0;");
        OthersShoes x = Checks.in(LAND);
        String[] words = {"number", "size", "will", "habit", "tight", "walked", "day", "went", "there"};
        int[] home = {3, 126, 109, 15, 4 + 1 + 7, 0, 0, 0, 0};
        int[] later = {3, 126, 109, 3 + 9 + 0, 2 + 3 + 7, 1, 3, 2, 1};
        for (int k = 0; k < words.length; k++) {
            answer(x, "total " + words[k], home[k]);
        }
        x.cross(0);
        x.cross(1);
        x.days(1);
        for (int k = 0; k < words.length; k++) {
            answer(x, "total " + words[k], later[k]);
        }
        answer(x, "first there=1", 1);
        answer(x, "last went=1", 1);
        answer(x, "first went=0", 2);
        OthersShoes wide = Checks.in("place a;pair p size 50 pulls a by 9;walker w size 1 will 0 to a in p;");
        answer(wide, "most tight", 49);
        answer(wide, "most there", 0);
        answer(wide, "most went", 0);
    }

    private static void far() {
        Edges.says("miles of the way from where he is (at HOME: the FRONTIER) to the PLACE of that number, -1 if there is none such or no way.)");
        OthersShoes x = Checks.in(LAND);
        int[] miles = {0, 2, 5, -1, -1};
        for (int place = 0; place <= 4; place++) {
            answer(x, "most far " + place, miles[place]);
            answer(x, "least far " + place, miles[place]);
        }
        answer(x, "most far(0-1)", -1);
        answer(x, "most far 9999", -1);
        answer(x, "most far(9999*9999)", -1);
        answer(x, "most far(0-9999*9999)", -1);
        x.cross(0);
        x.days(1);
        answer(x, "total far 0", 2);
        answer(x, "total far 1", 4);
        answer(x, "first far 2=3", 0);
        answer(x, "last far 2=5", 2);
        answer(x, "first far far 0=0", 1);
        answer(x, "first far far 0=3", 0);
        answer(x, "most far 1+1", 3);
        answer(x, "most far (1+1)", 5);
        answer(x, "most far 1*9", 18);
        answer(x, "most far min(1,2)", 2);
        answer(x, "most far number", 5);
        OthersShoes all = Checks.in(Edges.places(7) + "road a g miles 9;" + Edges.pairs(1) + Edges.walkers(1));
        answer(all, "most far 6", 9);
        answer(all, "most far 7", -1);
    }

    private static void sums() {
        Edges.says("SUM as in I,");
        OthersShoes x = Checks.in(LAND);
        String[] sums = {"2+3*4", "20-5-3", "20/3/2", "20/3*2", "2*7/3", "7/2", "(0-7)/2", "7/(0-2)", "(0-7)/(0-2)", "(0-8)/2",
            "7/0", "(0-7)/0", "0/0", "9-4+2", "(9-4)*2", "min(9,4)", "max(9,4)", "min(0-9,0-4)", "max(0-9,0-4)"};
        int[] want = {14, 12, 3, 12, 4, 3, -4, -4, 3, -4, 0, 0, 0, 7, 10, 4, 9, -9, -4};
        for (int k = 0; k < sums.length; k++) {
            answer(x, "most " + sums[k], want[k]);
        }
    }

    private static void limits() {
        Edges.says("each sum, difference, product above 10 to the 6 is that, below -10 to the 6 likewise.");
        OthersShoes x = Checks.in(Edges.FORK);
        String[] sums = {"999*1000+999", "999*1000+999+1", "999*1000+999+2", "1000*1000", "1000*1001", "9999*9999*9999",
            "1000*1000-(0-1)", "1000*1000+9999-1", "0-999*1000-999", "0-999*1000-999-1", "0-999*1000-999-2", "(0-1000)*1000",
            "(0-1000)*1001", "(0-1000)*1000+(0-1)", "(0-9999*9999)*9999", "(0-9999*9999)*(0-9999)", "1000*1000/(0-1)"};
        int[] want = {999999, 1000000, 1000000, 1000000, 1000000, 1000000, 1000000, 999999, -999999, -1000000, -1000000,
            -1000000, -1000000, -1000000, -1000000, 1000000, -1000000};
        for (int k = 0; k < sums.length; k++) {
            answer(x, "most " + sums[k], want[k]);
        }
        OthersShoes three = Checks.in(LAND);
        answer(three, "total 1000*1000", 3000000);
        answer(three, "total 0-1000*1000", -3000000);
    }

    private static void unknownWords() {
        Edges.says("Its FAULTS: 1 as in I (an unknown word at its first byte;");
        Edges.unanswered("^firs all", 1);
        Edges.unanswered("^firsts all", 1);
        Edges.unanswered("^all", 1);
        Edges.unanswered("^12345", 1);
        Edges.unanswered("first ^alls", 1);
        Edges.unanswered("first ^ann=1", 1);
        Edges.unanswered("first ^averylongword=1", 1);
        Edges.unanswered("total ^sizes", 1);
        Edges.unanswered("total 1+^x", 1);
        Edges.unanswered("total ^first", 1);
        Edges.unanswered("total ^Size", 1);
        Edges.unanswered("total^1", 1);
        Edges.unanswered("total 1^size", 1);
        Edges.unanswered("total size^1", 1);
        Edges.unanswered("first not^1=1", 1);
        Edges.unanswered("total far^1", 1);
        Edges.unanswered("first all^\tor all", 1);
        Edges.unanswered("first all^" + (char) 255, 1);
        OthersShoes x = Checks.in(LAND);
        answer(x, "\n first \n all \n", 0);
        answer(x, "first[all]", 0);
        answer(x, "first 1=1 or all", 0);
        Edges.unanswered("first 1=1^or all", 1);
    }

    private static void behind() {
        Edges.says("what stands behind it, too);");
        Edges.unanswered("first all ^;", 1);
        Edges.unanswered("first all ^all", 1);
        Edges.unanswered("first all ^12345", 1);
        Edges.unanswered("first all^]", 1);
        Edges.unanswered("first all^)", 1);
        Edges.unanswered("first 1=1^=1", 1);
        Edges.unanswered("total 1^,", 1);
        Edges.unanswered("total 1 ^1", 1);
        Edges.unanswered("total 1 ^abcdefghij", 1);
        Edges.unanswered("total 1 ^or 1", 1);
        Edges.unanswered("total (1)^(1)", 1);
    }

    private static void tooSoon() {
        Edges.says("1 as in I");
        String[] questions = {"first not [1 < number and all]", "total min(far 1, 2) + (3 * size)"};
        for (String text : questions) {
            for (int cut = 0; cut < text.length(); cut++) {
                if (cut == 0 || " ([],)<+*".indexOf(text.charAt(cut)) >= 0) {
                    boolean whole = text.substring(0, cut).trim().endsWith(", 2)");
                    if (!whole) {
                        Edges.unanswered(text.substring(0, cut) + "^", 1);
                    }
                }
            }
        }
        Edges.unanswered(" \n^", 1);
    }

    private static void depth() {
        Edges.says("4 the 7th of ( [ not far that is open at once (not until its FACT, far until its PART ends), at it.");
        OthersShoes x = Checks.in(LAND);
        answer(x, "total ((((((1))))))", 3);
        Edges.unanswered("total ((((((^(1)))))))", 4);
        answer(x, "often [[[[[[all]]]]]]", 3);
        Edges.unanswered("often [[[[[[^[all]]]]]]]", 4);
        answer(x, "often not not not not not not all", 3);
        Edges.unanswered("often not not not not not not ^not all", 4);
        answer(x, "total far far far far far far 3", -3);
        Edges.unanswered("total far far far far far far ^far 3", 4);
        answer(x, "total min(1,max(2,min(3,max(4,min(5,max(6,7))))))", 3);
        Edges.unanswered("total min(1,max(2,min(3,max(4,min(5,max(6,min^(7,8)))))))", 4);
        answer(x, "often [not(far min(1,far 0))=2]", 3);
        Edges.unanswered("often [not((far min(1,^far 0)))=2]", 4);
        Edges.unanswered("often [not(far min(1,far ^far 0))=2]", 4);
        Edges.unanswered("often [not(far min(1,far ^(0)))=2]", 4);
        Edges.unanswered("often [not[not[not^[all]]]]", 4);
    }

    private static void depthEnds() {
        Edges.says("(not until its FACT, far until its PART ends)");
        OthersShoes x = Checks.in(LAND);
        answer(x, "often not not not not not not all and not not not not not not all", 3);
        answer(x, "often not [[[[[all]]]]] or [[[[[[all]]]]]]", 3);
        answer(x, "often not 1=(((((1))))) or all", 3);
        Edges.unanswered("often not 1=(((((^(1))))))", 4);
        answer(x, "often not far 1=((((( 1 )))))", 3);
        answer(x, "total far far far far far far 0+far far far far far far 0", 0);
        answer(x, "total far(((((0)))))+((((((1))))))", 3);
        Edges.unanswered("total far(((((^(0))))))", 4);
        answer(x, "total far 0*((((((1))))))", 0);
        answer(x, "total ((((((1))))))-((((((1))))))", 0);
        answer(x, "often [[[[[[all]]]]]] and [[[[[[all]]]]]]", 3);
        Edges.unanswered("often [[[[[[1=^(1)]]]]]]", 4);
    }

    private static void nothingWithAFault() {
        Edges.says("NOTHING with a FAULT.");
        OthersShoes x = Checks.in(LAND);
        Checks.due("ask", Checks.ask(x, "total"), OthersShoes.NOTHING);
        Checks.due("ask of an empty tape", x.ask(), OthersShoes.NOTHING);
        Checks.due("its fault", x.fault(0), 1);
        Checks.due("its place", x.fault(1), 0);
        for (int what = 0; what <= 5; what++) {
            Checks.due("a question is never refused", x.status(what), 0);
        }
        Checks.due("ask", Checks.ask(x, "total 1"), 3);
    }
}
