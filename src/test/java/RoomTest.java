import com.sun.management.ThreadMXBean;
import java.lang.management.ManagementFactory;

/** One run lives in one room: all its objects come with the constructor, and the calls make none. */
public final class RoomTest {
    private static final long MOST_FOR_ONE = 100_000;
    private static final long MOST_FOR_CALLS = 10_000;

    private RoomTest() {
    }

    private static long allocated() {
        ThreadMXBean threads = (ThreadMXBean) ManagementFactory.getThreadMXBean();
        return threads.getThreadAllocatedBytes(Thread.currentThread().getId());
    }

    private static PensionSections full() {
        PensionSections x = new PensionSections();
        x.set(1, 60);
        for (int i = 0; i < 8; i++) {
            x.join(i % 3, 1000 + i, 300);
            x.fallBehind(i, i % 2 == 0);
        }
        x.pass(70);
        return x;
    }

    private static long allCalls(PensionSections x, int times) {
        long sum = 0;
        for (int i = 0; i < times; i++) {
            sum += x.pass(1) + x.digest() + x.fundLasts() + x.ifPassed(240, 0) + x.bestSection(1);
            sum += x.payLate(0, 100) + x.transfer(1, 100) + x.section(0, 100, 60) + x.close(1, false);
            sum += x.leave(x.member(7, 0)) + x.append('5') + x.append('s') + x.append('0') + x.append('a');
            sum += x.append('3') + x.append('3') + x.firstError() + x.joinAll() + x.undo() + x.join(2, 9, 400);
        }
        return sum;
    }

    public static void main(String[] args) {
        PensionSections x = full();
        allCalls(x, 2);
        long before = allocated();
        PensionSections one = new PensionSections();
        long forOne = allocated() - before;
        Check.isTrue("one object takes " + forOne + " bytes", forOne < MOST_FOR_ONE);
        Check.same("it is used", one.count(1), 0);
        before = allocated();
        allCalls(x, 20);
        long forCalls = allocated() - before;
        Check.isTrue("the calls take " + forCalls + " bytes", forCalls < MOST_FOR_CALLS);
        Check.end();
    }
}
