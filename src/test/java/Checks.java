import java.nio.charset.StandardCharsets;

/** What the tests share: feeding texts, and counting answers that are not the ones due. */
final class Checks {
    private static int wrong = 0;
    private static int asked = 0;
    private static String words = "";

    private Checks() {
    }

    static void due(String call, long got, long want) {
        asked++;
        if (got != want) {
            wrong++;
            System.out.println(call + " answered " + got + ", due is " + want + words);
        }
    }

    /** The document's words that the next answers are due by. */
    static void under(String said) {
        words = ", as it says: " + said;
    }

    static void due(String call, boolean got, boolean want) {
        due(call, got ? 1 : 0, want ? 1 : 0);
    }

    static void finish(String test) {
        System.out.println(test + ": " + asked + " answers, " + wrong + " not as due");
        System.exit(wrong == 0 ? 0 : 1);
    }

    static byte[] bytes(String text) {
        return text.getBytes(StandardCharsets.ISO_8859_1);
    }

    static byte[] bytes(int... values) {
        byte[] row = new byte[values.length];
        for (int k = 0; k < row.length; k++) {
            row[k] = (byte) values[k];
        }
        return row;
    }

    /** The tape must be empty ahead of it. */
    static void feed(OthersShoes x, byte[] text) {
        for (int from = 0; from < text.length; from += 20) {
            int[] five = five(text, from);
            due("feed", x.feed(five[0], five[1], five[2], five[3], five[4]), from + 20);
        }
        due("end", x.end(text.length), true);
    }

    static int[] five(byte[] text, int from) {
        int[] five = new int[5];
        for (int k = 0; k < 20; k++) {
            int it = from + k < text.length ? text[from + k] & 255 : 32;
            five[k / 4] = five[k / 4] << 8 | it;
        }
        return five;
    }

    static int land(OthersShoes x, String text) {
        feed(x, bytes(text));
        return x.land();
    }

    static OthersShoes in(String text) {
        OthersShoes x = new OthersShoes();
        due("land " + text, land(x, text) >= 0, true);
        due("its fault", x.fault(0), 0);
        due("its place", x.fault(1), OthersShoes.NONE);
        return x;
    }

    static long ask(OthersShoes x, String text) {
        feed(x, bytes(text));
        return x.ask();
    }

    static int see(OthersShoes x, int... rows) {
        feed(x, bytes(rows));
        return x.see();
    }

    static boolean on(OthersShoes x, int... image) {
        feed(x, bytes(image));
        return x.on();
    }

    static int[] checked(int... ahead) {
        int[] image = java.util.Arrays.copyOf(ahead, ahead.length + 1);
        int c = 103;
        for (int it : ahead) {
            c = (3 * c + it) % 251;
        }
        image[ahead.length] = c;
        return image;
    }

    static int[] image(OthersShoes x) {
        int[] image = new int[x.image()];
        for (int k = 0; k < image.length; k++) {
            image[k] = x.octet(k);
        }
        return image;
    }
}
