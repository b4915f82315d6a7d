import com.sun.management.ThreadMXBean;
import java.lang.management.ManagementFactory;

/**
 * All calls of a run live in one room: what an object takes when it is made is small, and its calls,
 * the dearest ones too, take nothing more. The greatest and the least of all numbers are gone through.
 */
public final class RoomTest {
    private static final ThreadMXBean THREADS = (ThreadMXBean) ManagementFactory.getThreadMXBean();

    public static void main(String[] args) {
        calls(new PlayedWritten());
        long before = taken();
        PlayedWritten x = new PlayedWritten();
        long made = taken() - before;
        Check.holds("an object takes " + made + " bytes: under 60,000", made < 60000);
        before = taken();
        calls(x);
        long called = taken() - before;
        Check.holds("512 calls take " + called + " bytes: under 2,000", called < 2000);
        everyNumber();
        longLife();
        Check.end("RoomTest");
    }

    private static long taken() {
        return THREADS.getThreadAllocatedBytes(Thread.currentThread().getId());
    }

    private static long calls(PlayedWritten x) {
        x.sets(0, 3);
        x.sets(2, 24);
        x.sets(3, 3);
        x.sets(4, 0);
        x.sets(6, 0);
        x.type('[');
        x.type('1');
        x.type('-');
        long sum = 0;
        for (int n = 0; n < 42; n++) {
            sum += x.draws(n, 8) + x.digest() + x.cost() + x.exact() + x.bent(n % 25) + x.forced(n % 4);
            sum += x.without(n % 8) + x.shown(2, 3) + x.count(6) + x.plays() + x.back() + x.type(' ');
        }
        return sum;
    }

    private static void everyNumber() {
        int[] numbers = {Integer.MIN_VALUE, -501, -500, -2, -1, 0, 1, 2, 3, 7, 8, 9, 24, 48, 99, 127, 432, 500,
            1999, 2000, 999999, 1000000, Integer.MAX_VALUE};
        for (int a : numbers) {
            PlayedWritten x = Check.with(5, 60);
            for (int b : numbers) {
                x.draws(a, b);
                x.moves(a, b);
                x.sets(a, b);
                x.bar(a, b);
                x.written(a, b);
                x.shown(a, b);
            }
            x.strikes(a);
            x.shifts(a);
            x.time(a);
            x.count(a);
            x.bent(a);
            x.forced(a);
            x.without(a);
            x.type(a);
            x.plays();
            x.told(a);
            x.lifts(a);
            Check.holds("still answers", x.digest() == x.digest());
        }
    }

    /** What is answered behind the 512th call is free, but no call may throw: none is looked at. */
    private static void longLife() {
        PlayedWritten x = new PlayedWritten();
        for (int n = 0; n < 3000; n++) {
            x.strikes(n);
            x.type(n % 128);
            x.shifts(1);
            if (n % 3 == 0) {
                x.back();
                x.clear();
            }
        }
        x.digest();
    }
}
