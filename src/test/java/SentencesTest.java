import java.io.IOException;
import java.nio.file.DirectoryStream;
import java.nio.file.Files;
import java.nio.file.Path;
import java.util.ArrayList;
import java.util.List;
import java.util.regex.Matcher;
import java.util.regex.Pattern;

/** Each of the document's words that tell what is due is named by a test of boundaries, as it stands there. */
public final class SentencesTest {
    private static final Path DOCUMENT = Path.of("../shared/DOC.md");
    private static final Path TESTS = Path.of("src/test/java");
    private static final String LITERAL = "\"(?:[^\"\\\\]|\\\\.)*\"";
    private static final Pattern NAMED = Pattern.compile("Edges\\.says\\(\\s*(" + LITERAL + "(?:\\s*\\+\\s*" + LITERAL + ")*)");
    private static final Pattern OWN_WORDS = Pattern.compile("OWN_WORDS = (" + LITERAL + "(?:\\s*\\+\\s*" + LITERAL + ")*)");
    /** Words that tell of no boundary: what the terms are about, and headings. */
    private static final String[] BESIDE = {
        "One crosses, leaves his own, is given others, walks leg by leg by his will or by his feet, habits wear and mend; "
            + "ways in told shoes, where one is later, the deal by which most arrive, the least will that is enough, laws compared, "
            + "an odd pair, who it was in whose shoes by footprints, the leg that tells most; crossings, laws, days by a seed with "
            + "rain; questions of all travellers; acts undone, images.",
        "A LEG: he goes to the next PLACE, on the way to where he wants to go (his WILL), or on the way to where his PAIR pulls "
            + "(its PULL):",
        "A QUESTION is a text, of all WALKERS:",
    };

    private SentencesTest() {
    }

    public static void main(String[] args) throws IOException {
        if (Files.isReadable(DOCUMENT)) {
            look(plain(Files.readString(DOCUMENT)));
        }
        Checks.finish("SentencesTest");
    }

    private static String plain(String text) {
        return text.replaceAll("\\s+", " ");
    }

    private static void look(String document) throws IOException {
        boolean[] named = new boolean[document.length()];
        for (String words : namedWords()) {
            Checks.due("the document says: " + words, mark(document, named, words), true);
        }
        for (String words : BESIDE) {
            Checks.due("the document says: " + words, mark(document, named, words), true);
        }
        Matcher heads = Pattern.compile("## Promise \\d+: [\\w ]+?(?= `)|`[\\w ]+\\([\\w ,]*\\)`:|```(text)?|\\bI{1,3}V?\\. |\\bIV\\. "
            + "|Ahead of the calls .*? the interface says: ---- [\\w, ]+\\.|The constants:|SUM:|DAYS; ").matcher(document);
        while (heads.find()) {
            fill(named, heads.start(), heads.end());
        }
        leftOver(document, named);
    }

    /** The same words may stand in it more than once. */
    private static boolean mark(String document, boolean[] named, String words) {
        int at = document.indexOf(words);
        boolean found = at >= 0;
        while (at >= 0) {
            fill(named, at, at + words.length());
            at = document.indexOf(words, at + 1);
        }
        return found;
    }

    private static void fill(boolean[] named, int from, int to) {
        for (int k = from; k < to; k++) {
            named[k] = true;
        }
    }

    private static void leftOver(String document, boolean[] named) {
        int last = document.indexOf("## Not promised");
        int k = document.indexOf("## Terms") + "## Terms".length();
        Checks.due("the document has terms and promises", k > 8 && last > k, true);
        StringBuilder words = new StringBuilder();
        for (; k < last; k++) {
            if (!named[k]) {
                words.append(document.charAt(k));
            } else if (words.length() > 0) {
                noneIsLeft(words.toString());
                words.setLength(0);
            }
        }
        noneIsLeft(words.toString());
    }

    private static void noneIsLeft(String words) {
        boolean none = words.replaceAll("[^A-Za-z0-9]", "").isEmpty();
        Checks.due("named by no test: " + words, none, true);
    }

    private static List<String> namedWords() throws IOException {
        List<String> all = new ArrayList<>();
        try (DirectoryStream<Path> files = Files.newDirectoryStream(TESTS, "*EdgesTest.java")) {
            for (Path file : files) {
                String source = Files.readString(file);
                Matcher own = OWN_WORDS.matcher(source);
                String inserted = own.find() ? "\"" + joined(own.group(1)) + "\"" : "\"\"";
                Matcher m = NAMED.matcher(source.replace("+ OWN_WORDS", "+ " + Matcher.quoteReplacement(inserted)));
                while (m.find()) {
                    all.add(joined(m.group(1)));
                }
            }
        }
        return all;
    }

    private static String joined(String literals) {
        StringBuilder text = new StringBuilder();
        Matcher m = Pattern.compile(LITERAL).matcher(literals);
        while (m.find()) {
            text.append(m.group(), 1, m.group().length() - 1);
        }
        return text.toString();
    }
}
