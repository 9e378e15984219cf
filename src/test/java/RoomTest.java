import com.sun.management.ThreadMXBean;
import java.lang.management.ManagementFactory;

/** All calls of a run share one room: no call makes an object, not even the dearest ones. */
public final class RoomTest {
    private static final Due DUE = new Due();

    public static void main(String[] args) {
        ThreadMXBean meter = (ThreadMXBean) ManagementFactory.getThreadMXBean();
        FallWith x = dearest();
        useAll(x);
        long self = Thread.currentThread().getId();
        long before = meter.getThreadAllocatedBytes(self);
        int sum = 0;
        for (int k = 0; k < 200; k++) {
            sum += useAll(x);
        }
        long taken = meter.getThreadAllocatedBytes(self) - before;
        // One small object a call would come to some 70,000 bytes.
        DUE.holds("200 rounds of all calls take no room: " + taken + " bytes, sum " + sum, taken < 10000);
        DUE.close();
    }

    /** Twelve acts, each NOUGHT, with texts as long as can be. */
    private static FallWith dearest() {
        FallWith x = new FallWith();
        for (int act = 0; act < 12; act++) {
            x.act(0, 0, 1, 99);
        }
        for (int act = 0; act < 12; act++) {
            for (int k = 0; k < 20; k++) {
                x.say('a' + (act + k + 1) % 12);
                if (k < 19) {
                    x.say(k % 6 == 5 ? '|' : '+');
                }
            }
            x.leans(act);
            x.set(act, 0, act == 0 ? 4 : 1);
        }
        return x;
    }

    private static int useAll(FallWith x) {
        int sum = x.act(0, 0, 1, 0) + x.set(0, 1, 99) + x.law(1, 1) + x.say('a') + x.fault() + x.wipe();
        sum += x.say('l') + x.leans(0) + x.free(0) + x.ask(0, 1, 50) + x.counts(0) + x.drop();
        sum += x.all(50, 1) + x.all(50, 2) + x.why(3, 50) + x.under(3) + x.fall(0, 1, 50, -2) + x.fall(0, 1, 50, -1);
        sum += x.back(0, 1, 50, 0) + x.wise(0, 50) + x.rest(50, 1) + x.heal(2048, 50, 0) + x.pillar(50, 0);
        sum += x.hangs(1, 50, 4095) + x.safe(0) + x.beside(50) + x.told(10);
        return sum;
    }
}
