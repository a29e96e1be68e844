import java.lang.management.ManagementFactory;

/**
 * "An object is used for at most 512 calls after it has been made": runs of just so many, the dearest that there are,
 * each in the room that all calls of one run have: 600000 objects, 7.3 million fields and elements.
 */
public final class RoomTest {
    private static final Check CHECK = new Check("RoomTest");
    private static final int CALLS = 512;
    /** No object takes less than 16 bytes, and nearly no element less than 4: within this both counts are kept. */
    private static final long MOST_BYTES = 16L * 600000;

    private int calls = 0;

    public static void main(String[] args) {
        new RoomTest().within("all values kept, then told one by one", RoomTest::keepsAllValues);
        new RoomTest().within("forty sessions", RoomTest::hasFortySessions);
        new RoomTest().within("bookings", RoomTest::books);
        new RoomTest().within("watts one by one", RoomTest::givesOneByOne);
        CHECK.end();
    }

    interface Run {
        void on(RoomTest test, ChargeYard x);
    }

    private void within(String title, Run run) {
        long ahead = bytes();
        run.on(this, new ChargeYard());
        long taken = bytes() - ahead;
        CHECK.due(title + ": calls", calls, CALLS);
        CHECK.due(title + ": room, of " + taken + " bytes", taken <= MOST_BYTES, true);
    }

    /** What this thread has taken so far; 0 where the machine does not tell. */
    private static long bytes() {
        if (ManagementFactory.getThreadMXBean() instanceof com.sun.management.ThreadMXBean threads) {
            return threads.getThreadAllocatedBytes(Thread.currentThread().getId());
        }
        return 0;
    }

    private void due(String call, int got, int want) {
        calls++;
        CHECK.due(call, got, want);
    }

    private void most(ChargeYard x, int power) {
        for (int i = 0; i < 8; i++) {
            due("socket", x.socket(0, 50000), i);
            due("car", x.car(6000000, 0, power), i);
        }
        due("card", x.card(0, 0), 0);
    }

    private void plugAll(ChargeYard x, int from) {
        for (int i = 0; i < 8; i++) {
            due("plug", x.plug(i, i, 0), from + i);
        }
    }

    private void keepsAllValues(ChargeYard x) {
        most(x, 1400);
        plugAll(x, 0);
        for (int i = 0; i < 8; i++) {
            due("link", x.link(i, false), 0);
        }
        for (int minute = 0; minute < 20000; minute += 120) {
            int next = Math.min(20000, minute + 120);
            due("pass", x.pass(next - minute), next);
        }
        for (int i = 0; calls < CALLS; i++) {
            due("billAnew", x.billAnew(i % 8), 0);
        }
    }

    private void hasFortySessions(ChargeYard x) {
        most(x, 3000);
        int minute = 0;
        for (int first = 0; first < 40; first += 8) {
            plugAll(x, first);
            for (int i = 0; i < 33; i++) {
                minute += 120;
                due("pass", x.pass(120), minute);
            }
            for (int i = 0; i < 8; i++) {
                due("unplug", x.unplug(first + i), 0);
            }
        }
        for (int i = 0; calls < CALLS; i++) {
            due("bill", x.bill(i % 40), 0);
        }
    }

    private void books(ChargeYard x) {
        due("socket", x.socket(0, 1400), 0);
        due("card", x.card(0, 0), 0);
        for (int i = 0; calls < CALLS; i++) {
            due("book", x.book(0, 0, 20000 - 15 * i, 15), i + 1);
        }
    }

    private void givesOneByOne(ChargeYard x) {
        most(x, 50000);
        plugAll(x, 0);
        due("set", x.set(0, 200000), 10000);
        due("set", x.set(1, 100000), 0);
        for (int i = 0; calls < CALLS; i++) {
            due("powerAnew", x.powerAnew(i % 8), 37500);
        }
    }
}
