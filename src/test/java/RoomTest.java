import java.lang.management.ManagementFactory;

/** Rows are made once, in the constructor: the calls themselves, the dearest ones too, take no room. */
public final class RoomTest {
    private static final Check CHECK = new Check("RoomTest");

    private RoomTest() { }

    public static void main(String[] args) {
        play(new RoadWorks());
        long start = taken();
        RoadWorks x = new RoadWorks();
        long made = taken() - start;
        start = taken();
        play(x);
        long played = taken() - start;
        CHECK.holds("an object takes " + made + " bytes, at most 100000 are due", made <= 100000);
        CHECK.holds("512 calls take " + played + " bytes, at most 10000 are due", played <= 10000);
        CHECK.end();
    }

    private static long taken() {
        com.sun.management.ThreadMXBean bean = (com.sun.management.ThreadMXBean) ManagementFactory.getThreadMXBean();
        return bean.getThreadAllocatedBytes(Thread.currentThread().getId());
    }

    private static void play(RoadWorks x) {
        for (int i = 0; i < 40; i++) x.piece(100 * (i % 20) + (i + 1 + i / 20) % 20, 1 + i % 4, i % 3, 1 + i % 9, i % 5);
        for (int i = 0; i < 8; i++) x.pair(i, 19 - i, 25 * (i + 1));
        int calls = 48;
        for (int w = 0; w < 60; w++) {
            x.work(10000 * (w % 10) + (w % 2 == 0 ? 3000 : 0) + 100 + 1 + w % 30, 1000 * (1 + w % 9) + w, w % 40);
            x.more(w, (w + 7) % 40);
            x.permit(w, Math.max(0, x.first(w, 100, 200)));
            calls += 4;
        }
        for (int i = 0; calls < 512; i++) {
            x.feast(50 + i, i % 2);
            x.better();
            x.over(i % 60, 3);
            x.shut(i);
            x.book(i % 40, i % 4);
            x.about(i % 60, 5);
            x.day(1);
            calls += 7;
        }
    }
}
