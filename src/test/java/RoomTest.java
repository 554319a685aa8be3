import com.sun.management.ThreadMXBean;
import java.lang.management.ManagementFactory;

/** All calls of a run live in one room: the constructor makes little, the calls make nothing. */
public final class RoomTest {
    private static final String WIDEST =
            "v0;h40;h30;h20;h30;h20;h30;p0,30,2,3,3,3;q0,30,3,3,3,3;s0,30,4,2,3,3;w0,30,1,0,3,3;";
    private static final Check CHECK = new Check("RoomTest");
    private static final ThreadMXBean THREADS = (ThreadMXBean) ManagementFactory.getThreadMXBean();

    public static void main(String[] args) {
        UnitHours first = Check.withDay(WIDEST);
        everyCall(first);
        made();
        long before = made();
        UnitHours x = new UnitHours();
        long behind = made();
        CHECK.holds("an object has " + (behind - before) + " bytes", behind - before < 100_000);
        Check.feedText(x, WIDEST);
        x.day();
        before = made();
        for (int k = 0; k < 12; k++) {
            everyCall(x);
        }
        behind = made();
        CHECK.holds("all calls make " + (behind - before) + " bytes", behind - before < 1_000);
        quick();
        CHECK.finish();
    }

    private static long made() {
        return THREADS.getThreadAllocatedBytes(Thread.currentThread().getId());
    }

    private static void everyCall(UnitHours x) {
        x.row(0, 2, 40);
        x.set(0, 1, 7);
        x.copy(0, 0, 0, 1, 9);
        x.row(1, 0, 1);
        x.drop(1);
        x.feed(118);
        x.day();
        x.fault();
        x.run(0, 7);
        x.layBest();
        x.demand(0, 33);
        x.reserve(1);
        x.price(0, 5);
        x.become(0, 2);
        for (int w = 0; w < 9; w++) {
            x.unit(0, w);
            x.hour(0, w);
            x.plan(w);
            x.best(w);
            x.count(w);
        }
        x.gives(0, 0);
        x.alone(0, 0, 0, -2);
        x.bound(0, 0);
        x.moved(12, -1);
        x.gap(12);
        x.more(0);
        x.wanted();
        for (int which = 0; which < 4; which++) {
            x.who(which, 0, 300);
        }
        x.fits(0, 0, 6);
        x.drawn(8, 1, 0);
        x.image(0);
        x.kind(0);
        x.as(0, 1);
        x.ask(0, 0);
        x.trace(0);
        x.status();
        x.undo();
        x.restore(0);
    }

    /** 512 of the dearest calls; a minute stands far above what they need. */
    private static void quick() {
        UnitHours x = Check.withDay(WIDEST);
        long begun = System.nanoTime();
        for (int k = 0; k < 512 / 4; k++) {
            x.who(0, 0, k);
            x.who(3, 3, k);
            x.drawn(8, 1 + k, 0);
            x.fits(0, 0, 1);
        }
        CHECK.holds("the dearest calls are quick", System.nanoTime() - begun < 60_000_000_000L);
    }
}
