import java.lang.management.ManagementFactory;

/** What a run of 512 calls makes must stay far below the room that all calls share. */
public final class RoomTest {
    private static final Due t = new Due();
    /** The room is some 7.3 million elements; a run here may have a hundredth of it, told in bytes. */
    private static final long MOST = 7_300_000L / 100 * 4;

    private static long made() {
        com.sun.management.ThreadMXBean bean = (com.sun.management.ThreadMXBean) ManagementFactory.getThreadMXBean();
        return bean.getThreadAllocatedBytes(Thread.currentThread().getId());
    }

    private static FluxWatch crowded() {
        FluxWatch x = new FluxWatch();
        for (int i = 0; i < 6; i++) {
            x.coil(9);
        }
        for (int i = 0; i < 20; i++) {
            x.watch(i % 6, i, 1999);
        }
        for (int i = 0; i < 8; i++) {
            x.offer(1 + i, i);
        }
        for (int i = 0; i < 60; i++) {
            x.knock(i);
        }
        x.feed(0x72617465, 0x20732a31, 0x2b642f39);
        x.text();
        x.keep();
        return x;
    }

    private static int dear(FluxWatch x, int i) {
        switch (i % 8) {
            case 0:
                return x.soonest(9999, 0, 0);
            case 1:
                return x.since(200);
            case 2:
                return x.falls(0);
            case 3:
                return x.back();
            case 4:
                return x.run(60);
            case 5:
                return x.keep();
            case 6:
                return x.check(30);
            default:
                return x.width(60);
        }
    }

    public static void main(String[] args) {
        // Once ahead of the count, so that what the machine makes for itself is made.
        dear(crowded(), 0);
        made();
        long before = made();
        FluxWatch x = crowded();
        int answers = 0;
        for (int i = 0; i < 400; i++) {
            answers += dear(x, i);
        }
        for (int i = 0; i < 50; i++) {
            x.feed(0x72617465, 0x20732a31, 0x2b642f39);
            x.text();
        }
        long made = made() - before;
        System.out.println(made + " bytes made (" + answers + ")");
        t.due("bytes made stay below " + MOST, made < MOST ? 1 : 0, 1);
        t.end();
    }
}
