import java.lang.management.ManagementFactory;

/** All calls of a run share one room: an object and its dearest calls must take little of it. */
public final class RoomTest {
    private static final int CALLS = 200;

    private static long taken() {
        com.sun.management.ThreadMXBean bean = (com.sun.management.ThreadMXBean) ManagementFactory.getThreadMXBean();
        return bean.getThreadAllocatedBytes(Thread.currentThread().getId());
    }

    private static void tape(OneBullet x, String text) {
        x.end(0);
        for (int from = 0; from < text.length(); from += 4) {
            // a number is four signs, blanks behind the text
            int v = 0;
            for (int k = 0; k < 4; k++) v = v << 8 | (from + k < text.length() ? text.charAt(from + k) : ' ');
            x.feed(v, 0x20202020, 0x20202020, 0x20202020, 0x20202020);
            x.end(from + 4);
        }
    }

    public static void main(String[] args) {
        taken();
        // The first object pays for the loading of classes, too.
        new OneBullet();
        long start = taken();
        OneBullet x = new OneBullet();
        long made = taken() - start;
        for (int k = 0; k < 12; k++) x.place(k % 2, 8 * k, k);
        for (int k = 0; k < 10; k++) x.person(k, k % 2);
        for (int k = 0; k < 7; k++) x.quarrel(k, k + 1, k, 900);
        tape(x, "wears 1 + dents % 2 + weight % 3; flattens 1 if rust > 5; aims 3; bars if person = 9");
        int law = x.law();
        x.force(law);
        x.image(0);
        start = taken();
        int sum = 0;
        for (int k = 0; k < CALLS; k++) {
            x.back(0);
            sum += x.queue(0) + x.queue(21) + x.spades() + x.marks(3, 90, 3, -1) + x.game(1) + x.odds(0, 0) + x.free(1);
            sum += x.season(k, 30) + x.drawn(0) + x.fire(0, 0) + x.duel(1, k) + x.rest(3) + x.undo() + x.image(1);
        }
        long calls = taken() - start;
        System.out.println(made + " bytes for an object, " + calls + " for " + CALLS + " rounds of calls (" + sum + ")");
        if (law != 0 || made > 64_000 || calls > 20_000) System.exit(1);
    }
}
