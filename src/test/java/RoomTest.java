import com.sun.management.ThreadMXBean;
import java.lang.management.ManagementFactory;

/** All calls of a run live in one room: no call makes an object, not the dearest one either. */
public final class RoomTest {
    private static final int ROUNDS = 500;
    private static final long MOST_BYTES = 64 * 1024;

    public static void main(String[] args) {
        ThreadMXBean threads = (ThreadMXBean) ManagementFactory.getThreadMXBean();
        EveningCloak x = new EveningCloak();
        for (int i = 0; i < 8; i++) x.deposit(i < 4 ? 4 : 5, 2 * i);
        for (int i = 0; i < 6; i++) x.girl(99);
        x.sheet(0, 32, 8);
        long before = threads.getThreadAllocatedBytes(Thread.currentThread().getId());
        long sum = 0;
        for (int i = 0; i < ROUNDS; i++) sum += round(x);
        long made = threads.getThreadAllocatedBytes(Thread.currentThread().getId()) - before;
        System.out.println(ROUNDS + " rounds of calls made " + made + " bytes of objects (" + sum + ")");
        if (made > MOST_BYTES) {
            System.out.println("at most " + MOST_BYTES + " are due");
            System.exit(1);
        }
    }

    private static long round(EveningCloak x) {
        long sum = x.hangFor(0, 40) + x.standFor(0, 40) + x.kindFor(0, 40) + x.hopeFor(0, 40) + x.giveOut(20);
        sum += x.fits(0, 0) + x.kinds(0, 0) + x.meets(0, 9999) + x.threadbare(0, 99) + x.earns(99999);
        sum += x.ahead(0, 6, 100) + x.later(0, 0, 100) + x.dawn(0, 100) + x.odds(15, 1) + x.image() + x.undo() + x.tear();
        sum += x.feed(0x68617420, 4) + x.text() + x.feed(0x7374616e, 4) + x.feed(0x64302031, 4) + x.feed(0x2032, 2) + x.text();
        sum += x.sheet(1, 32, 40) + x.write(1, 0, 5) + x.copy(1, 0, 1, 1, 30) + x.load(1) + x.judge(1) + x.sheet(0, 32, 8);
        sum += x.go(1) + x.night(1) + x.now(4) + x.now(5) + x.hold(0, 0) + x.as(0, 0) + x.seed(5) + x.wipe();
        return sum + x.stand(0, 0, 0) + x.listed(0) + x.of(0, 8) + x.change(0, 4, 0) + x.ofGirl(0, 0) + x.wake(0, 0, 0)
            + x.light(0) + x.call(99) + x.count(4) + x.status(-1) + x.deposit(0, 0) + x.girl(5);
    }
}
