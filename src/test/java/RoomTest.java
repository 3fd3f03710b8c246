import java.lang.management.ManagementFactory;

/** All calls of a run live in one room: what is made is made by the constructor, and calls make nothing more. */
public final class RoomTest {
    private static final Due D = new Due();

    public static void main(String[] args) {
        com.sun.management.ThreadMXBean threads = (com.sun.management.ThreadMXBean) ManagementFactory.getThreadMXBean();
        long id = Thread.currentThread().getId();
        dearCalls(new DayMarket());
        DayMarket x = new DayMarket();
        long before = threads.getThreadAllocatedBytes(id);
        dearCalls(x);
        long made = threads.getThreadAllocatedBytes(id) - before;
        D.due("bytes made by 512 calls are few: " + made, made < 4096 ? 1 : 0, 1);
        before = threads.getThreadAllocatedBytes(id);
        DayMarket y = new DayMarket();
        made = threads.getThreadAllocatedBytes(id) - before;
        D.due("bytes made by the constructor are few: " + made, made < 32768 ? 1 : 0, 1);
        D.due("a new object", y.count(0), 0);
        D.end();
    }

    /** 12 calls, and 25 times 20. */
    private static void dearCalls(DayMarket x) {
        x.deal(10);
        x.sheet(0, 1, 24);
        x.keep();
        for (int i = 0; i < 9; i++) {
            x.mark(0, i, i);
        }
        for (int i = 0; i < 25; i++) {
            x.feed(0x77656172, 0x2078292b, 0x28747777);
            x.text();
            x.feed(0x77656172, 0x20782b28, 0x742d7729);
            x.text();
            x.back();
            x.markets(3);
            x.dye(i % 10, 60, 0);
            x.mends(60, 0);
            x.worn();
            x.toldBy(0, 0);
            x.fill(i % 6, 0);
            x.emptied(i % 6);
            x.behind(i % 10, 100, 1);
            x.richest(100, 0);
            x.lay(i % 5, 2, 0);
            x.copy(0, 0, 0, 1, 20);
            x.tell(5);
            x.check(30);
            x.keep();
            x.set(i % 10, 3, i);
        }
    }
}
