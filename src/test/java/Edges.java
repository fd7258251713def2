/** What the tests of the document's boundaries share: each of them names the words that it tests. */
final class Edges {
    /** At a the will goes on to b, the pull of p to c; p is on the shelf, o is worn. */
    static final String FORK = "place a;place b;place c;road a b miles 1;road a c miles 1;"
        + "pair p size 10 pulls c by 5;pair o size 10 pulls b by 0;walker w size 10 will 3 to b in o;";

    private Edges() {
    }

    /** The words stand so in the document: SentencesTest looks at that, and at which words no test names. */
    static void says(String words) {
        Checks.under(words);
    }

    static void sound(String text, int statements) {
        OthersShoes x = new OthersShoes();
        Checks.due("land " + text, Checks.land(x, text), statements);
        Checks.due("its fault", x.fault(0), 0);
        Checks.due("its place", x.fault(1), -1);
        Checks.due("refused", x.status(1), 0);
    }

    /** The fault is due where the sign ^ stands, which is no part of the text. */
    static void spoilt(String marked, int fault) {
        int place = marked.indexOf('^');
        String text = marked.substring(0, place) + marked.substring(place + 1);
        OthersShoes x = new OthersShoes();
        Checks.due("land " + text, Checks.land(x, text), -1);
        Checks.due("its fault", x.fault(0), fault);
        Checks.due("its place", x.fault(1), place);
        Checks.due("refused", x.status(1), 1);
    }

    static void answer(OthersShoes x, String question, long want) {
        Checks.due(question, Checks.ask(x, question), want);
        Checks.due("its fault", x.fault(0), 0);
        Checks.due("its place", x.fault(1), -1);
    }

    /** The fault is due where the sign ^ stands, which is no part of the question. */
    static void unanswered(String marked, int fault) {
        int place = marked.indexOf('^');
        String text = marked.substring(0, place) + marked.substring(place + 1);
        OthersShoes x = Checks.in(FORK);
        Checks.due("ask " + text, Checks.ask(x, text), OthersShoes.NOTHING);
        Checks.due("its fault", x.fault(0), fault);
        Checks.due("its place", x.fault(1), place);
    }

    /** How a number is told as a SUM, which knows four digits and no sign ahead. */
    static String told(int value) {
        if (value < 0) {
            return "0-(" + told(-value) + ")";
        }
        return value <= 9999 ? "" + value : value / 1000 + "*1000+" + value % 1000;
    }

    /** Whether the pull wins at the fork at once, by these sums. */
    static boolean pulled(String pull, String strive) {
        OthersShoes x = Checks.in(FORK + "pull " + pull + ";strive " + strive + ";");
        return x.where(0, 0, 1) == 2;
    }

    /** A SUM's value, told by what is just below it and what is it. */
    static void sumIs(String sum, int want) {
        Checks.due(sum + " is not above " + want, pulled(sum, told(want)), false);
        Checks.due(sum + " is above " + (want - 1), pulled(sum, told(want - 1)), true);
        Checks.due(told(want) + " is not above " + sum, pulled(told(want), sum), false);
    }

    /** Places a and on, as many as asked for. */
    static String places(int many) {
        StringBuilder text = new StringBuilder();
        for (int k = 0; k < many; k++) {
            text.append("place ").append((char) ('a' + k)).append(';');
        }
        return text.toString();
    }

    /** Pairs pa and on, that pull to a. */
    static String pairs(int many) {
        StringBuilder text = new StringBuilder();
        for (int k = 0; k < many; k++) {
            text.append("pair p").append((char) ('a' + k)).append(" size 1 pulls a by 1;");
        }
        return text.toString();
    }

    /** Walkers wa and on in pairs pa and on, who want to go to a. */
    static String walkers(int many) {
        StringBuilder text = new StringBuilder();
        for (int k = 0; k < many; k++) {
            char c = (char) ('a' + k);
            text.append("walker w").append(c).append(" size 1 will 1 to a in p").append(c).append(';');
        }
        return text.toString();
    }

    static void shelf(OthersShoes x, int... want) {
        for (int k = 0; k < want.length; k++) {
            Checks.due("shelf(" + k + ")", x.shelf(k), want[k]);
        }
        Checks.due("shelf(" + want.length + ")", x.shelf(want.length), -1);
        Checks.due("has(6)", x.has(6), want.length);
    }
}
