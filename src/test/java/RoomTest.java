import java.lang.management.ManagementFactory;
import java.util.function.IntSupplier;

/** All calls of one run live in one room: an object is small, and its calls make nothing. */
public final class RoomTest {
    private static final com.sun.management.ThreadMXBean THREADS =
            (com.sun.management.ThreadMXBean) ManagementFactory.getThreadMXBean();
    private static final int CALLS = 512;
    /** The room's 7.3 million elements, of 4 bytes, among as many new objects as there may be calls. */
    private static final long MOST_BYTES = 7_300_000L * 4 / CALLS;

    public static void main(String[] args) {
        BestPair six = Check.people("ps40g9w90m5;ps40g9w80f41;ps40g9w70f42;ps40g9w60f43;ps40g9w50f44;ps40g9w40f45");
        BestPair four = Check.people("ps40g9w90;ps40g9w80f41;ps40g9w70f42;ps40g9w60f43");
        String rule = "y:w*2+f-s/3>o+n*p&w>10|f<0?w*3+p*n-f*s;y:[w+1]*[f-2]/[n+1]+100";
        six.rule(3, Check.rule(six, rule));
        four.rule(3, Check.rule(four, rule));
        Check.tape(six, rule);
        Check.tape(four, "p;p;p;p");
        makesNothing("fault(0)", () -> four.fault(0));
        makesNothing("fault(1)", () -> six.fault(1));
        makesNothing("person", () -> six.person(1, 2) + six.pair(1, 1) + six.fits(1, 1));
        makesNothing("evening", () -> six.evening(0, 63, 12345));
        makesNothing("tried", () -> six.tried(0, 63, 12345, 0));
        makesNothing("orders", () -> six.orders(0, 63, 1, 1));
        makesNothing("worst", () -> six.worst(0, 63, 1));
        makesNothing("host", () -> six.host(0, 63, 1, 0));
        makesNothing("hide", () -> six.hide(0, 63, 12345, 1, 1));
        makesNothing("rests", () -> six.rests(0, 15, 3, -1));
        makesNothing("quiet", () -> six.quiet(63, -1));
        makesNothing("year", () -> six.year(60, 5));
        makesNothing("likely", () -> four.likely(20, 1, 1));
        makesNothing("cobbler", () -> six.cobbler(0, 63, 1, 50, 0));
        makesNothing("odd", () -> six.odd(5, 12340, 3));
        makesNothing("sight", () -> six.sight(0, 1, 40) + six.agree() + six.been(1, -1));
        makesNothing("left", () -> six.left(0, 63, 1));
        makesNothing("swap", () -> six.swap(0, 63, 12345, 0, 1));
        makesNothing("dream", () -> six.dream(0, 63, 5));
        makesNothing("bring", () -> four.bring(0, 3));
        makesNothing("steady", four::steady);
        makesNothing("rest", () -> six.lost() + six.envy(-1) + six.image() + six.back() + six.count(5));
        long made = bytes();
        BestPair one = new BestPair();
        made = bytes() - made;
        Check.due("a new object of " + made + " bytes is small", made > 0 && made < MOST_BYTES, true);
        Check.due("nobody", one.count(0), 0);
        Check.end("RoomTest");
    }

    private static long bytes() {
        return THREADS.getCurrentThreadAllocatedBytes();
    }

    private static void makesNothing(String name, IntSupplier call) {
        // The first times may load classes.
        for (int k = 0; k < 5; k++) {
            call.getAsInt();
            bytes();
        }
        long before = bytes();
        int sum = 0;
        for (int k = 0; k < 10; k++) {
            sum += call.getAsInt();
        }
        long made = bytes() - before;
        Check.due(name + " made " + made + " bytes (answers: " + sum + ")", made < 200, true);
    }
}
