import java.io.IOException;
import java.lang.reflect.Method;
import java.nio.file.Files;
import java.nio.file.Path;
import java.util.regex.Matcher;
import java.util.regex.Pattern;

/** README.md tells every call, and the answers that it tells are the class's. */
public final class ReadmeTest {
    private static final Path README = Path.of("README.md");
    private static final Pattern LINE = Pattern.compile(
        "(?m)^tell\\(x, \"([^\"]*)\"\\);$|^x\\.(\\w+)\\(([-\\d, ]*)\\); +// (\\w+|-\\d+): .+$");
    private static int answers = 0;

    private ReadmeTest() {
    }

    public static void main(String[] args) throws IOException, ReflectiveOperationException {
        String text = Files.readString(README);
        example(text);
        everyCall(text);
        Checks.finish("ReadmeTest");
    }

    private static void example(String text) throws ReflectiveOperationException {
        OthersShoes x = new OthersShoes();
        Matcher lines = LINE.matcher(text);
        while (lines.find()) {
            if (lines.group(1) != null) {
                tell(x, lines.group(1));
            } else {
                answer(x, lines.group(2), lines.group(3), lines.group(4));
            }
        }
        int told = text.split("\nx\\.", -1).length - 1;
        Checks.due("answers told in README.md are compared", answers, told);
        Checks.due("README.md tells answers", told > 0, true);
    }

    private static void answer(OthersShoes x, String name, String list, String want) throws ReflectiveOperationException {
        String[] parts = list.isEmpty() ? new String[0] : list.split(", ");
        Object[] numbers = new Object[parts.length];
        for (int k = 0; k < parts.length; k++) {
            numbers[k] = Integer.parseInt(parts[k]);
        }
        String got = String.valueOf(called(name).invoke(x, numbers));
        Checks.due(name + "(" + list + ") answered " + got + ", README.md tells " + want, got.equals(want), true);
        answers++;
    }

    private static Method called(String name) {
        for (Method m : OthersShoes.class.getMethods()) {
            if (m.getName().equals(name)) {
                return m;
            }
        }
        throw new IllegalArgumentException("README.md tells a call that is none: " + name);
    }

    private static void everyCall(String text) {
        for (Method m : OthersShoes.class.getMethods()) {
            if (m.getDeclaringClass() == OthersShoes.class) {
                Checks.due("README.md tells " + m.getName(), text.contains("`" + m.getName() + "`"), true);
            }
        }
    }

    /** As README.md writes it. */
    private static void tell(OthersShoes x, String text) {
        for (int from = 0; from < text.length(); from += 20) {
            int[] five = new int[5];
            for (int k = 0; k < 20; k++) {
                int it = from + k < text.length() ? text.charAt(from + k) : ' ';
                five[k / 4] = five[k / 4] << 8 | it;
            }
            x.feed(five[0], five[1], five[2], five[3], five[4]);
        }
    }
}
