import java.lang.reflect.InvocationTargetException;
import java.lang.reflect.Method;
import java.lang.reflect.Modifier;
import java.util.Arrays;
import java.util.Comparator;

/** No call throws, for any arguments in any state; a call that only looks changes nothing. */
public final class AnyCallTest {
    private static final int[] NUMBERS = {Integer.MIN_VALUE, Integer.MIN_VALUE + 1, -1000, -2, -1, 0, 1, 2, 5, 6, 7, 8, 9,
        16, 20, 30, 31, 60, 61, 99, 100, 101, 999, 1000, 1600, Integer.MAX_VALUE - 1, Integer.MAX_VALUE};
    private static final String ACTS = " feed end land see cross back law days chance undo seed ask image on ";
    private static final String FULL = Edges.places(7) + "road a b miles 9;road b c miles 9;road c d miles 9;road d e miles 9;"
        + "road e f miles 9;" + Edges.pairs(8) + Edges.walkers(6) + "pull 9999*9999*habit;strive 0-9999*9999*will;legs 9;rain 100;law 2;";
    private static final String[] LANDS = {"", "place a;", Edges.FORK, FULL,
        "place a;pair p size 1 pulls a by 0;walker w size 50 will 0 to a in p;"};

    private AnyCallTest() {
    }

    public static void main(String[] args) {
        Method[] calls = OthersShoes.class.getDeclaredMethods();
        Arrays.sort(calls, Comparator.comparing(Method::getName));
        for (Method call : calls) {
            if (Modifier.isPublic(call.getModifiers())) {
                anyNumbers(call);
            }
        }
        Checks.finish("AnyCallTest");
    }

    private static void anyNumbers(Method call) {
        for (int state = 0; state < 5 * LANDS.length; state++) {
            OthersShoes x = in(LANDS[state / 5], state % 5);
            int many = call.getParameterCount();
            // Of feed's five numbers none does more than the others.
            int rows = many > 3 ? NUMBERS.length : (int) Math.pow(NUMBERS.length, many);
            for (int row = 0; row < rows; row++) {
                once(x, call, row);
            }
        }
    }

    /** As told; all across; all across on the last day; one back again behind some days; with a tape of all bytes. */
    private static OthersShoes in(String land, int how) {
        OthersShoes x = land.isEmpty() ? new OthersShoes() : Checks.in(land);
        for (int walker = 0; how > 0 && walker < x.has(3); walker++) {
            x.cross(walker);
        }
        if (how == 2) {
            int[] image = Checks.image(x);
            int[] ahead = Arrays.copyOf(image, image.length - 1);
            ahead[0] = 999 / 256;
            ahead[1] = 999 % 256;
            Checks.due("a late image", Checks.on(x, Checks.checked(ahead)), true);
        }
        if (how == 3) {
            x.days(3);
            x.back(0);
            x.see();
        }
        if (how == 4) {
            for (int k = 0; k < 256; k += 4) {
                int it = (k << 24) + (k + 1 << 16) + (k + 2 << 8) + k + 3;
                x.feed(it, ~it, it * 31, it ^ 0x20202020, it);
            }
        }
        return x;
    }

    private static void once(OthersShoes x, Method call, int row) {
        Object[] numbers = new Object[call.getParameterCount()];
        int left = row;
        for (int k = 0; k < numbers.length; k++) {
            numbers[k] = NUMBERS[left % NUMBERS.length];
            left = numbers.length > 3 ? left + 7 : left / NUMBERS.length;
        }
        long before = ACTS.contains(" " + call.getName() + " ") ? 0 : told(x);
        boolean thrown = false;
        try {
            call.invoke(x, numbers);
        } catch (InvocationTargetException e) {
            thrown = true;
        } catch (IllegalAccessException e) {
            throw new IllegalStateException(e);
        }
        Checks.due(call.getName() + Arrays.toString(numbers) + " threw", thrown, false);
        if (!ACTS.contains(" " + call.getName() + " ")) {
            Checks.due(call.getName() + Arrays.toString(numbers) + " changed nothing", told(x) == before, true);
        }
    }

    /** All that can be told at little cost of how things are, in one number. */
    private static long told(OthersShoes x) {
        long told = x.fault(0) * 31L + x.fault(1);
        for (int what = 0; what < 11; what++) {
            told = told * 31 + x.has(what);
        }
        for (int what = 0; what < 6; what++) {
            told = told * 31 + x.status(what);
        }
        for (int walker = 0; walker < x.has(3); walker++) {
            told = ((told * 31 + x.walker(walker, 3)) * 31 + x.walker(walker, 4)) * 31 + x.walker(walker, 5);
        }
        for (int pair = 0; pair < x.has(2); pair++) {
            told = (told * 31 + x.pair(pair, 2)) * 31 + x.shelf(pair);
        }
        return told;
    }
}
