import com.sun.management.ThreadMXBean;
import java.lang.management.ManagementFactory;

/** That calls make nothing new, and that the dearest ones end soon. */
public final class RoomTest {
    private static final Due due = new Due("RoomTest");
    // One object: some 130 objects and arrays with some 2,500 fields and elements.
    private static final long OBJECT_BYTES = 40_000;

    private RoomTest() {
    }

    public static void main(String[] args) {
        ThreadMXBean bean = (ThreadMXBean) ManagementFactory.getThreadMXBean();
        long thread = Thread.currentThread().getId();
        // Once ahead of counting, so that classes are loaded.
        use(new SharedNights());
        long before = bean.getThreadAllocatedBytes(thread);
        SharedNights x = new SharedNights();
        long made = bean.getThreadAllocatedBytes(thread);
        due.is("bytes of an object", Math.max(OBJECT_BYTES, made - before), OBJECT_BYTES);
        int sum = use(x);
        long used = bean.getThreadAllocatedBytes(thread);
        // What the counting itself makes is not the class's.
        due.is("bytes made by calls", Math.max(4000, used - made), 4000);
        due.is("something was answered", sum != 0 ? 1 : 0, 1);
        due.end();
    }

    private static final long[][] TEXT = packed("with 0 at 0 worth 5: expose 1 seeing 3 air 8, wait 0 to 3, "
            + "expose 1 seeing 3 air 8, wait 0 to 3, expose 1 seeing 3 air 8");

    private static long[][] packed(String text) {
        long[][] all = new long[(text.length() + 7) / 8][2];
        for (int i = 0; i < all.length; i++) {
            all[i][1] = Math.min(8, text.length() - 8 * i);
            all[i][0] = Glass.packed(text, 8 * i, (int) all[i][1]);
        }
        return all;
    }

    /** Some 500 calls, with five PLANS that have as many PLACEMENTS as can be. */
    private static int use(SharedNights x) {
        int sum = 0;
        x.slots(12);
        x.target(6, 8, 0);
        for (int p = 0; p < 5; p++) {
            sum += x.write(0x2030_2064_6e61_6cL, 7);
            for (long[] bytes : TEXT) {
                sum += x.write(bytes[0], (int) bytes[1]);
            }
            sum += x.fault() + x.stands() + x.plan();
        }
        x.world(1);
        x.world(9);
        for (int i = 0; i < 30; i++) {
            sum += x.worth(i % 5, 1 + i) + x.best(0) + x.price(i % 5) + x.empty(i % 12) + x.placements(i % 5);
            sum += x.alert(0, i % 3, 1000 * (1 + i % 4) + 380, 0, 11, 1) + x.alert(0, i % 3, 3380, 3, 9, 0);
            sum += x.rule() + x.value(i % 3, 0) + x.sure(i % 3) + x.log(i % 3, 3, i % 12) + x.state(i % 3, 1, i % 5, 12);
        }
        sum += x.drop(0) + x.close(0) + x.next() + x.debt(0) + x.count(6);
        return sum;
    }
}
