/** Promise 32: ask, with promise 5 for its faults. */
public final class QuestionTest {
    private static final String LAND = "place a;place b;place c;place d;road a b miles 2;road b c miles 3;"
        + "pair p size 40 pulls c by 6;pair q size 44 pulls b by 9;pair r size 38 pulls a by 0;"
        + "pair s size 42 pulls c by 2;walker ann size 40 will 7 to c in q;walker bob size 41 will 3 to a in p;"
        + "walker cid size 45 will 99 to d in r;legs 1;law 2;";

    /** Made anew for each group of questions: an object is used for 512 calls at most. */
    private static OthersShoes x;

    private QuestionTest() {
    }

    public static void main(String[] args) {
        words();
        wordsBehindActs();
        sums();
        limits();
        tests();
        binding();
        longAndDeep();
        faultsOfBytes();
        faultsOfDepth();
        faultsAreTold();
        nobody();
        Checks.finish("QuestionTest");
    }

    private static void due(String question, long want) {
        Checks.due(question, Checks.ask(x, question), want);
        Checks.due("fault of " + question, x.fault(0), 0);
        Checks.due("place of " + question, x.fault(1), -1);
    }

    private static void words() {
        x = Checks.in(LAND);
        due("total number", 3);
        due("total size", 126);
        due("total will", 109);
        due("total habit", 15);
        due("most tight", 7);
        due("least tight", 1);
        due("total walked", 0);
        due("total day", 0);
        due("total went", 0);
        due("total there", 0);
        due("most far 0", 0);
        due("most far 1", 2);
        due("least far 2", 5);
        due("most far 3", -1);
        due("most far 4", -1);
        due("most far (0-1)", -1);
        due("most far 9999", -1);
        due("most far far 1", 5);
        due("most far far far 1", -1);
        due("total 5", 15);
    }

    // ann gets s, bob q; bob is there at once; behind a day ann is at b.
    private static void wordsBehindActs() {
        x = Checks.in(LAND);
        x.cross(0);
        x.cross(1);
        x.days(1);
        due("total went", 2);
        due("total there", 1);
        due("total walked", 1);
        due("total day", 3);
        due("most day", 1);
        due("total habit", 3 + 9 + 0);
        due("total tight", 2 + 3 + 7);
        due("total far 0", 2);
        due("first far 2 = 3", 0);
        due("last far 2 = 5", 2);
        due("first went = 0", 2);
        due("last there = 1", 1);
        x.undo();
        x.undo();
        x.undo();
        due("total went", 0);
    }

    private static void sums() {
        x = Checks.in(LAND);
        due("most 2+3*4", 14);
        due("most (2+3)*4", 20);
        due("most 20-5-3", 12);
        due("most 20/3/2", 3);
        due("most 20/3*2", 12);
        due("most 2*7/3", 4);
        due("most (0-7)/2", -4);
        due("most 7/(0-2)", -4);
        due("most (0-7)/(0-2)", 3);
        due("most 7/0", 0);
        due("most 0-7/0", 0);
        due("most min(3,2+9)", 3);
        due("most max(3,2+9)", 11);
        due("most min ( max(1,5) , 4 ) * 2", 8);
        due("most 0009", 9);
        due("least number-5", -5);
        due("total number-5", -12);
        due("\n most\n1\n+1 ", 2);
        due("most(1)", 1);
        due("most((((((1))))))", 1);
        due("most far min(far(far 0),1)", 0);
    }

    private static void limits() {
        x = Checks.in(LAND);
        due("most 9999*9999", 1000000);
        due("least 0-9999*9999", -1000000);
        due("most 9999*100+9999", 1000000);
        due("most 9999*100+100", 1000000);
        due("most 9999*100+99", 999999);
        due("least 0-9999*100-9999", -1000000);
        due("most 9999*9999-1", 999999);
        due("most 9999*9999*9999", 1000000);
        due("most (0-9999*9999)*9999", -1000000);
        due("most (0-9999*9999)*(0-9999)", 1000000);
        due("total 9999*9999", 3000000);
        due("total 0-9999*9999", -3000000);
    }

    private static void tests() {
        x = Checks.in(LAND);
        due("first all", 0);
        due("last all", 2);
        due("often all", 3);
        due("often not all", 0);
        due("first not all", -1);
        due("last not all", -1);
        due("first size > 40", 1);
        due("last size < 45", 1);
        due("often size = 41", 1);
        due("often size > 41", 1);
        due("often size < 41", 1);
        due("often will > 3 and will < 99", 1);
        due("often will = 3 or will = 99", 2);
        due("often not will = 3", 2);
        due("often not not will = 3", 1);
        due("often[all]", 3);
        due("often not[will=3 or will=7]", 1);
        due("often number+1=2", 1);
        due("first(number)=2", 2);
        due("first [ [ [ [ [ [ number = 1 ] ] ] ] ] ]", 1);
        due("first not not not not not not number = 1", 1);
    }

    private static void binding() {
        x = Checks.in(LAND);
        due("often all or all and not all", 3);
        due("often [all or all] and not all", 0);
        due("often not all and all", 0);
        due("often not [not all and all]", 3);
        due("often not all or all", 3);
        due("often number = 0 or number = 1 and will = 3", 2);
        due("often not number = 0 and not number = 1", 1);
        due("often number=0 and all or number=2", 2);
    }

    private static void longAndDeep() {
        x = Checks.in(LAND);
        String ones = "1+".repeat(790);
        due("most " + ones + "1", 791);
        due("most " + ones + "2", 792);
        due("first all or not all and 5 < " + "0+1*max(9,0+1*min(8,".repeat(3) + "number" + "))".repeat(3), 0);
        due("last not all or all and number = " + "0+1*min(2,0+1*max(0,".repeat(3) + "number" + "))".repeat(3), 2);
        due("last " + "not all or all and [".repeat(6) + "number=1" + "]".repeat(6), 1);
    }

    /** The fault is due where the sign ^ stands, which is no part of the text. */
    private static void faulty(String marked, int fault) {
        int place = marked.indexOf('^');
        String text = marked.substring(0, place) + marked.substring(place + 1);
        Checks.due("ask " + text, Checks.ask(x, text), OthersShoes.NOTHING);
        Checks.due("fault of " + text, x.fault(0), fault);
        Checks.due("place of " + text, x.fault(1), place);
    }

    private static void faultsOfBytes() {
        x = Checks.in(LAND);
        faulty("^", 1);
        faulty("  ^", 1);
        faulty("^all", 1);
        faulty("^firsts all", 1);
        faulty("^1", 1);
        faulty("first^", 1);
        faulty("first ^", 1);
        faulty("first^1=1", 1);
        faulty("first 1^", 1);
        faulty("first 1=^", 1);
        faulty("first ^=1", 1);
        faulty("first 1=^=1", 1);
        faulty("first 1=1^=1", 1);
        faulty("first 1 ^or 1", 1);
        faulty("first all ^all", 1);
        faulty("first all^;", 1);
        faulty("first all ^x", 1);
        faulty("first all ^12345", 1);
        faulty("first 1=1^or all", 1);
        faulty("first not^", 1);
        faulty("first ^or all", 1);
        faulty("first all or ^and all", 1);
        faulty("first [all^", 1);
        faulty("first [all^)", 1);
        faulty("first all^]", 1);
        faulty("first (^all)", 1);
        faulty("first (^[", 1);
        faulty("first (1^=1)", 1);
        faulty("total 1^=1", 1);
        faulty("total ^all", 1);
        faulty("total ^not 1", 1);
        faulty("total ^[1]", 1);
        faulty("total 1^,2", 1);
        faulty("total min^", 1);
        faulty("total min ^[1,2]", 1);
        faulty("total min(1^)", 1);
        faulty("total far^", 1);
        faulty("total far ^+1", 1);
        faulty("total far^1", 1);
        faulty("total ^unknownword", 1);
        faulty("total ^Size", 1);
        faulty("total ^ann", 1);
        faulty("total 1234^5", 1);
        faulty("total 0000^0", 1);
        faulty("total 1^size", 1);
        faulty("total size^1", 1);
        faulty("total 1 ^1", 1);
        faulty("total 1^\t", 1);
        faulty("total 1 ^" + (char) 200, 1);
    }

    private static void faultsOfDepth() {
        x = Checks.in(LAND);
        faulty("total ((((((^(1)))))))", 4);
        faulty("first [[[[[[^[all]]]]]]]", 4);
        faulty("first not not not not not not ^not all", 4);
        faulty("total far far far far far far ^far 1", 4);
        faulty("first [not(((far min^(1,2))))=1]", 4);
        faulty("first [not[(((^far(1))))=1]]", 4);
        faulty("first [not[not far far min^(1,2)=1]]", 4);
        due("first not not not not not not all and not not not not not not all", 0);
        due("first not far far far far far 1 = 0", 0);
        faulty("first not far far far far far ^far 1 = 0", 4);
        faulty("first not far far far far far ^(1) = 0", 4);
        due("total far far far far far far 1 + far far far far far far 1", -6);
        due("total (far far far far far 0) + ((((((1))))))", 3);
        due("first [[[all]]] and not [[[[[all]]]]] or [[[[[[all]]]]]]", 0);
    }

    private static void faultsAreTold() {
        x = Checks.in(LAND);
        faulty("first ^x", 1);
        Checks.due("fault(2)", x.fault(2), -1);
        Checks.due("fault(-1)", x.fault(-1), -1);
        due("first all", 0);
        Checks.due("ask is never refused", x.status(1), 0);
        Checks.due("spoilt land", Checks.land(x, "place"), -1);
        Checks.due("fault of the land", x.fault(1), 5);
        due("first all", 0);
        faulty("^", 1);
        Checks.due("an image", x.image() > 0, true);
        Checks.due("fault stays", x.fault(0), 1);
        Checks.due("see", Checks.see(x, 0, 0), 1);
        Checks.due("fault stays", x.fault(0), 1);
        Checks.due("sound land", Checks.land(x, LAND), 15);
        Checks.due("no fault", x.fault(0), 0);
        Checks.due("no place", x.fault(1), -1);
    }

    private static void nobody() {
        x = new OthersShoes();
        due("first all", -1);
        due("last all", -1);
        due("often all", 0);
        due("total 5", 0);
        due("most 5", 0);
        due("least 5", 0);
        due("least 0-5", 0);
        faulty("total ^x", 1);
    }
}
