import com.sun.management.ThreadMXBean;
import java.lang.management.ManagementFactory;

/** All calls of a run live in one room: an object is small, and no call makes another object or array. */
public final class RoomTest {
    private static final ThreadMXBean ROOM = (ThreadMXBean) ManagementFactory.getThreadMXBean();

    public static void main(String[] args) {
        long made = 0;
        TheUsual x = null;
        for (int i = 0; i < 10; i++) {
            long ahead = taken();
            x = new TheUsual();
            made = taken() - ahead;
        }
        Check.due("bytes of an object, at most 16384", Math.max(made, 16384), 16384);
        allCalls(x);
        long ahead = taken();
        for (int i = 0; i < 100; i++) {
            allCalls(x);
        }
        Check.due("bytes that calls took, below 100 a round", (taken() - ahead) / 10000, 0);
        Check.end();
    }

    private static long taken() {
        return ROOM.getThreadAllocatedBytes(Thread.currentThread().getId());
    }

    private static void letter(TheUsual x, int i, int a, int b) {
        x.put(0, i, a);
        x.put(0, i + 1, b);
        for (int place = 2; place < 6; place++) {
            x.put(0, i + place, 49);
        }
    }

    private static void allCalls(TheUsual x) {
        x.text(0, 30);
        letter(x, 0, 's', '0');
        letter(x, 7, 'h', '1');
        letter(x, 14, 'f', '2');
        letter(x, 21, 'y', '1');
        x.fault(0);
        x.shop(0);
        x.row(0, 4);
        x.lay(0, 0, 1);
        x.at(0, 0);
        x.row(1, 4);
        x.copy(0, 0, 1, 0, 2);
        x.mean(0);
        x.tear(0);
        x.regular(0, 0);
        x.mark(0, 1);
        x.mark(2, 2);
        x.mark(1, 3);
        x.mark(3, 4);
        x.mark(2, 5);
        x.other(0, 0);
        x.serve(0, 0);
        x.morning();
        x.lots(20, 7);
        x.keep(0);
        x.undo(1);
        x.on(0);
        theRest(x);
    }

    private static void theRest(TheUsual x) {
        x.who(0, 0);
        x.parts(0, 1);
        x.wants(0, 0);
        x.likely(0, 1, 1);
        x.takes(0, 1, 1);
        x.quickest(0, 1);
        x.row(0, 4);
        x.queue(0);
        x.by(0, 99);
        x.order(1);
        x.learn(2);
        x.fits(0);
        x.kinds(0, 0, 1);
        x.lies(0);
        x.apart(0, 1, 0, 999);
        x.sour(0);
        x.odds(3);
        x.asked();
        x.upper();
        x.lower();
        x.count(9);
        x.finding();
        x.findings(1);
        x.digest();
    }
}
