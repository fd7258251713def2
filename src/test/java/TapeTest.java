/** Promises 1 to 3: a new object, feed, end. */
public final class TapeTest {
    private TapeTest() {
    }

    public static void main(String[] args) {
        newObject();
        feedsUntilFull();
        ends();
        highestByteFirst();
        tapeGoes();
        Checks.finish("TapeTest");
    }

    private static void newObject() {
        OthersShoes x = new OthersShoes();
        for (int what = 0; what <= 10; what++) {
            Checks.due("new has(" + what + ")", x.has(what), 0);
        }
        for (int what = 0; what <= 5; what++) {
            Checks.due("new status(" + what + ")", x.status(what), 0);
        }
        Checks.due("new fault(0)", x.fault(0), 0);
        Checks.due("new fault(1)", x.fault(1), -1);
        Checks.due("new octet(0)", x.octet(0), -1);
        Checks.due("new image()", x.image(), 4);
        Checks.due("new land() of an empty tape", x.land(), 0);
        Checks.due("new deal(-1)", x.deal(-1), 0);
        Checks.due("new days(1)", x.days(1), 0);
    }

    private static void feedsUntilFull() {
        OthersShoes x = new OthersShoes();
        for (int k = 1; k <= 80; k++) {
            Checks.due("feed " + k, x.feed(0, 0, 0, 0, 0), 20 * k);
        }
        Checks.due("feed 81", x.feed(0, 0, 0, 0, 0), -1);
        Checks.due("feed 82", x.feed(0, 0, 0, 0, 0), -1);
        Checks.due("refused", x.status(0), 2);
        Checks.due("end(1581)", x.end(1581), true);
        Checks.due("feed of 1601", x.feed(0, 0, 0, 0, 0), -1);
        Checks.due("end(1580)", x.end(1580), true);
        Checks.due("feed of 1600", x.feed(0, 0, 0, 0, 0), 1600);
        Checks.due("refused", x.status(0), 3);
    }

    private static void ends() {
        OthersShoes x = new OthersShoes();
        Checks.due("end(0) of none", x.end(0), true);
        Checks.due("end(1) of none", x.end(1), false);
        Checks.due("feed", x.feed(1, 2, 3, 4, 5), 20);
        Checks.due("end(-1)", x.end(-1), false);
        Checks.due("end(21)", x.end(21), false);
        Checks.due("end(least)", x.end(Integer.MIN_VALUE), false);
        Checks.due("end(most)", x.end(Integer.MAX_VALUE), false);
        Checks.due("refused", x.status(0), 5);
        Checks.due("end(20)", x.end(20), true);
        Checks.due("end(7)", x.end(7), true);
        Checks.due("end(8)", x.end(8), false);
        Checks.due("feed behind 7", x.feed(1, 2, 3, 4, 5), 27);
        Checks.due("end(0)", x.end(0), true);
        Checks.due("feed behind 0", x.feed(1, 2, 3, 4, 5), 20);
    }

    private static void highestByteFirst() {
        OthersShoes x = new OthersShoes();
        x.feed(0x706c6163, 0x6520623b, 0x726f6164, 0xff000000, 0);
        x.end(13);
        Checks.due("land with a byte 255", x.land(), -1);
        Checks.due("its fault", x.fault(0), 1);
        Checks.due("its place", x.fault(1), 12);
        x.feed(0x706c6163, 0x6520623b, 0x20202020, 0x20202020, 0x20202020);
        Checks.due("land", x.land(), 1);
        Checks.due("letter", x.letter(0, 0, 0), 2);
    }

    private static void tapeGoes() {
        OthersShoes x = new OthersShoes();
        Checks.feed(x, Checks.bytes("x"));
        Checks.due("land", x.land(), -1);
        Checks.feed(x, Checks.bytes("x"));
        Checks.due("ask", x.ask(), OthersShoes.NOTHING);
        Checks.feed(x, Checks.bytes("x"));
        Checks.due("see", x.see(), -1);
        Checks.feed(x, Checks.bytes("x"));
        Checks.due("on", x.on(), false);
        Checks.feed(x, Checks.bytes(" "));
        Checks.due("land", x.land(), 0);
        Checks.feed(x, Checks.bytes("often all"));
        Checks.due("ask", x.ask(), 0);
        Checks.due("feed", x.feed(0, 0, 0, 0, 0), 20);
    }
}
