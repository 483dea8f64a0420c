import java.lang.management.ManagementFactory;

/** Wild arguments in any state neither throw nor make objects: all rows are made with the object. */
public final class RoomTest {
    private static final int[] WILD = {0, 1, 2, 3, 5, 6, 7, 8, 9, 10, 11, 31, 32, 63, 64, 160, 255, 256, 999, 1000,
        -1, -2, -31, -32, 65536, Integer.MAX_VALUE, Integer.MAX_VALUE - 1, Integer.MIN_VALUE, Integer.MIN_VALUE + 1};
    private static long sum;

    public static void main(String[] args) {
        Checks c = new Checks();
        String[] texts = {"peace", "knight 1 1;king 2 2", "table 3;mourning 1;squire 9 9", "table 8;knight 1 1;"
            + "knight 2 2;squire 3 3;king 4 4;knight 5 5;knight 6 6;enemies 0 1;gold 2 5;peril 3 7;meant 5"};
        PerilSeat[] all = new PerilSeat[texts.length + 1];
        all[0] = new PerilSeat();
        for (int i = 0; i < texts.length; i++) {
            all[i + 1] = Checks.told(texts[i]);
        }
        com.sun.management.ThreadMXBean bean = (com.sun.management.ThreadMXBean) ManagementFactory.getThreadMXBean();
        long id = Thread.currentThread().getId();
        wild(all);
        bean.getThreadAllocatedBytes(id);
        long before = bean.getThreadAllocatedBytes(id);
        wild(all);
        long made = bean.getThreadAllocatedBytes(id) - before;
        // The measuring itself makes a few objects; the 100,000 calls in between make none.
        c.due("bytes made by calls: " + made + ", at most 4096", made <= 4096 ? 1 : 0, 1);
        c.due("some answer was given", sum != 0 ? 1 : 0, 1);
        c.end();
    }

    private static void wild(PerilSeat[] all) {
        for (PerilSeat x : all) {
            for (int a : WILD) {
                one(x, a);
                for (int b : WILD) {
                    two(x, a, b);
                }
            }
        }
    }

    private static void one(PerilSeat x, int a) {
        sum += x.write(a) + x.fault() + x.table() + x.rise() + x.feast() + x.undo() + x.keep(a) + x.back(a);
        sum += x.seatings() + x.seatOf(a) + x.moved() + x.knows(a) + x.judge(a) + x.worlds(a) + x.lent(a) + x.count(a);
    }

    private static void two(PerilSeat x, int a, int b) {
        sum += x.seat(a, b) + x.knight(a, b) + x.as(a, b) + x.seatAs(a, b) + x.sit(a, b) + x.tell(a, b) + x.feast();
        sum += x.seen(a, b, b, a) + x.seen(b, 0, a, a) + x.safest(a, b) + x.quests(a, b, a, b, 1);
        sum += x.quests(0, 0, a, b, 0) + x.quests(0, 0, 8, a, b) + x.seen(0, 0, a, b) + x.undo();
    }
}
