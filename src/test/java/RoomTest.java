import java.lang.management.ManagementFactory;
import java.util.function.Consumer;

/** All calls of a run live in one room: no call makes objects, and an object of the class is small. */
public final class RoomTest {
    private static final String LAND = "place a;place b;place c;road a b miles 1;road a c miles 1;"
        + "pair p size 10 pulls c by 5;pair q size 12 pulls b by 3;pair r size 9 pulls a by 0;pair s size 10 pulls c by 3;"
        + "walker w size 10 will 3 to b in r;walker v size 11 will 2 to b in q;pull habit-tight;rain 50;";

    private RoomTest() {
    }

    private static long made() {
        com.sun.management.ThreadMXBean bean = (com.sun.management.ThreadMXBean) ManagementFactory.getThreadMXBean();
        return bean.getThreadAllocatedBytes(Thread.currentThread().getId());
    }

    private static void makesNothing(String name, Consumer<OthersShoes> call) {
        OthersShoes x = Checks.in(LAND);
        call.accept(x);
        long before = made();
        for (int k = 0; k < 50; k++) {
            call.accept(x);
        }
        long bytes = made() - before;
        // The loop's own dealings with the virtual machine make a little now and then.
        Checks.due(name + " made " + bytes + " bytes", bytes < 2000, true);
    }

    public static void main(String[] args) {
        // The first one loads classes, too.
        Checks.due("none", new OthersShoes().has(0), 0);
        made();
        long before = made();
        OthersShoes x = new OthersShoes();
        long bytes = made() - before;
        Checks.due("an object is of " + bytes + " bytes", bytes < 80000, true);
        Checks.due("none", x.has(0), 0);
        int[][] land = fives(LAND);
        int[][] question = fives("often not [size > 3 and far min(1,2) = 1] or habit*2 < (1+will)");
        makesNothing("land", y -> takeAfter(y, land).land());
        makesNothing("ask", y -> takeAfter(y, question).ask());
        makesNothing("see", y -> takeAfter(y, land).see());
        makesNothing("on", y -> takeAfter(y, land).on());
        makesNothing("looks", RoomTest::look);
        makesNothing("acts", RoomTest::act);
        Checks.finish("RoomTest");
    }

    private static int[][] fives(String text) {
        int[][] rows = new int[(text.length() + 19) / 20][];
        for (int k = 0; k < rows.length; k++) {
            rows[k] = Checks.five(Checks.bytes(text), 20 * k);
        }
        return rows;
    }

    private static OthersShoes takeAfter(OthersShoes x, int[][] fives) {
        for (int[] f : fives) {
            x.feed(f[0], f[1], f[2], f[3], f[4]);
        }
        return x;
    }

    private static void look(OthersShoes x) {
        x.tries(0, 0);
        x.where(0, 0, 9);
        x.firm(0, 0);
        x.odd(0, 0, 1);
        x.deal(-1);
        x.lawed(1);
        x.later(0, 60, 0);
        x.arrives(0);
        x.prints(0);
        x.tells(0);
        x.image();
        x.gets(0);
        x.miles(0, 1);
    }

    private static void act(OthersShoes x) {
        x.cross(0);
        x.law(1);
        x.law(0);
        x.days(1);
        x.chance(1);
        x.back(0);
        x.undo();
        x.seed(4);
    }
}
