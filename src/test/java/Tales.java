import java.util.ArrayList;
import java.util.Collections;
import java.util.List;
import java.util.Random;

/** Texts by a random source with a fixed seed: lands and questions, sound ones and spoilt ones. */
final class Tales {
    private static final String[] WORDS = ("place road miles pair size pulls by walker will to in pull strive law legs "
        + "rain habit tight walked day number there went far or and not all min max first last often total most least "
        + "a b zz abcdef abcdefg 0 1 9 51 100 9999 10000 00001 ; , ( ) [ ] < > = + - * / A _").split(" ");
    private final Random chance;

    Tales(Random chance) {
        this.chance = chance;
    }

    int upTo(int most) {
        return chance.nextInt(most + 1);
    }

    private String blank() {
        int k = upTo(12);
        return k == 0 ? "\n" : k == 1 ? "  " : " ";
    }

    private String loose() {
        return upTo(5) == 0 ? blank() : "";
    }

    private String pick(String... of) {
        return of[chance.nextInt(of.length)];
    }

    String land() {
        List<String> rows = new ArrayList<>();
        int places = upTo(9) == 0 ? upTo(2) : 3 + upTo(4);
        int pairs = places == 0 ? 0 : upTo(9) == 0 ? upTo(8) : 3 + upTo(5);
        int walkers = Math.min(pairs, 1 + upTo(5));
        for (int p = 0; p < places; p++) {
            rows.add("place" + blank() + "p" + (char) ('a' + p));
        }
        addRoads(rows, places);
        for (int p = 0; p < pairs; p++) {
            rows.add("pair s" + (char) ('a' + p) + blank() + "size " + (38 + upTo(6)) + " pulls p"
                + (char) ('a' + upTo(places - 1)) + " by " + upTo(9));
        }
        List<Integer> own = new ArrayList<>();
        for (int p = 0; p < pairs; p++) {
            own.add(p);
        }
        Collections.shuffle(own, chance);
        for (int w = 0; w < walkers; w++) {
            rows.add("walker w" + (char) ('a' + w) + " size " + (37 + upTo(8)) + " will " + upTo(upTo(3) == 0 ? 99 : 10)
                + " to p" + (char) ('a' + upTo(places - 1)) + " in s" + (char) ('a' + own.get(w)));
        }
        addSettings(rows);
        StringBuilder text = new StringBuilder();
        for (String row : rows) {
            text.append(loose()).append(row).append(loose()).append(';');
        }
        return text.append(loose()).toString();
    }

    private void addRoads(List<String> rows, int places) {
        int many = 0;
        int thick = 2 + upTo(4);
        for (int a = 0; a < places; a++) {
            for (int b = a + 1; b < places; b++) {
                if (many < 12 && upTo(8) < thick) {
                    boolean turned = upTo(1) == 0;
                    rows.add("road p" + (char) ('a' + (turned ? b : a)) + " p" + (char) ('a' + (turned ? a : b)) + " miles "
                        + (1 + upTo(upTo(1) == 0 ? 2 : 8)));
                    many++;
                }
            }
        }
    }

    private void addSettings(List<String> rows) {
        if (upTo(2) > 0) {
            rows.add("pull " + sum(3, false));
        }
        if (upTo(2) > 0) {
            rows.add("strive " + sum(3, false));
        }
        if (upTo(1) == 0) {
            rows.add("law " + upTo(2));
        }
        if (upTo(1) == 0) {
            rows.add("legs " + (1 + upTo(8)));
        }
        if (upTo(1) == 0) {
            rows.add("rain " + upTo(100));
        }
    }

    String question() {
        String kind = pick("first", "last", "often", "total", "most", "least");
        boolean test = kind.equals("first") || kind.equals("last") || kind.equals("often");
        return loose() + kind + blank() + (test ? test(upTo(5)) : sum(upTo(5), true)) + loose();
    }

    private String test(int deep) {
        StringBuilder text = new StringBuilder(fact(deep));
        for (int k = upTo(2); k > 0; k--) {
            text.append(' ').append(pick("or", "and")).append(blank()).append(fact(deep));
        }
        return text.toString();
    }

    private String fact(int deep) {
        int k = upTo(7);
        if (deep > 0 && k == 0) {
            return "not " + fact(deep - 1);
        }
        if (deep > 0 && k < 3) {
            return "[" + loose() + test(deep - 1) + loose() + "]";
        }
        if (k == 3) {
            return "all";
        }
        return sum(deep, true) + loose() + pick("<", ">", "=") + loose() + sum(deep, true);
    }

    String sum(int deep, boolean asks) {
        StringBuilder text = new StringBuilder(part(deep, asks));
        for (int k = upTo(3); k > 0; k--) {
            text.append(loose()).append(pick("+", "-", "*", "/")).append(loose()).append(part(deep, asks));
        }
        return text.toString();
    }

    private String part(int deep, boolean asks) {
        int k = upTo(11);
        if (deep > 0 && k == 0) {
            return "(" + loose() + sum(deep - 1, asks) + loose() + ")";
        }
        if (deep > 0 && k == 1) {
            return pick("min", "max") + loose() + "(" + sum(deep - 1, asks) + loose() + "," + sum(deep - 1, asks) + ")";
        }
        if (deep > 0 && asks && k == 2) {
            return "far " + part(deep - 1, asks);
        }
        if (k < 6) {
            return "" + upTo(upTo(4) == 0 ? 9999 : 9);
        }
        return asks ? pick("number", "size", "will", "habit", "tight", "walked", "day", "went", "there")
            : pick("habit", "tight", "walked", "will", "day");
    }

    /** A text in which a byte, a word or the end is another one. */
    String spoilt(String text) {
        int at = upTo(text.length());
        int to = Math.min(text.length(), at + 1 + upTo(3));
        String ahead = text.substring(0, at);
        switch (upTo(6)) {
            case 0: return ahead;
            case 1: return ahead + text.substring(to);
            case 2: return ahead + pick(WORDS) + text.substring(at);
            case 3: return ahead + " " + pick(WORDS) + " " + text.substring(at);
            case 4: return ahead + (char) upTo(255) + text.substring(at);
            case 5: return withOtherWord(text, at);
            default: return ahead + text.substring(Math.max(0, at - upTo(30)));
        }
    }

    private String withOtherWord(String text, int at) {
        int from = at;
        while (from > 0 && Character.isLetterOrDigit(text.charAt(from - 1))) {
            from--;
        }
        int to = at;
        while (to < text.length() && Character.isLetterOrDigit(text.charAt(to))) {
            to++;
        }
        return text.substring(0, from) + pick(WORDS) + text.substring(to);
    }
}
