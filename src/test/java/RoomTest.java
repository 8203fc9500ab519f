import com.sun.management.ThreadMXBean;
import java.lang.management.ManagementFactory;

/** What a run of 512 calls makes stays far below the room of 7.3 million fields and elements. */
public final class RoomTest {
    private static final int CALLS = 512;
    private static final long NEW_OBJECT = 100_000;
    private static final long ASKING = 20_000;
    private static final long TELLING = 1_500_000;
    private static final ThreadMXBean BEAN = (ThreadMXBean) ManagementFactory.getThreadMXBean();

    public static void main(String[] args) {
        Check check = new Check();
        WornLines warm = dear();
        askAll(warm, 0);
        long before = made();
        WornLines x = new WornLines();
        check.due("bytes of a new object", within(made() - before, NEW_OBJECT), true);
        x = dear();
        before = made();
        for (int i = 0; i < CALLS; i += 16) {
            askAll(x, i);
        }
        check.due("bytes of 512 askings", within(made() - before, ASKING), true);
        before = made();
        for (int i = 0; i < CALLS; i++) {
            x.feed(0x7374756666206120L, 0x6265617273203120L, 0x636f737473203b3bL);
            x.programme();
        }
        check.due("bytes of 512 programmes", within(made() - before, TELLING), true);
        check.end();
    }

    private static WornLines dear() {
        return Check.told("stuff a bears 9999 costs 1;stuff b bears 20 costs 2;cell n 0;cell s 0;input n 0 63;"
                + "line a set s s+n*(1+2);line a set n n-1;line a write worn 0;line a mend 1 by 1;"
                + "line a if 0<n go 0;line b write s;");
    }

    private static void askAll(WornLines x, int i) {
        x.lay(i % 6, 0, 4);
        x.begin(i % 64);
        x.run(1000);
        x.state(0);
        x.steps(63);
        x.falls(63);
        x.most(0, 0);
        x.never();
        x.first(0);
        x.apart();
        x.rounds(63);
        x.lasting(64);
        x.lasts(64, 5, 1);
        x.better(0);
        x.mark(0, i % 2 == 1);
        x.same(0);
    }

    private static long made() {
        return BEAN.getThreadAllocatedBytes(Thread.currentThread().getId());
    }

    private static boolean within(long bytes, long most) {
        System.out.println(bytes + " bytes, " + most + " at most");
        return bytes <= most;
    }
}
