import java.lang.management.ManagementFactory;

/** What a run of 512 of the dearest calls makes must be small: all of one run lives in one room. */
public final class RoomTest {

    /** A whole object with its image is some ten thousand numbers. */
    private static final long MOST_BYTES = 400_000;

    private static int wrong = 0;

    public static void main(String[] args) {
        com.sun.management.ThreadMXBean threads = (com.sun.management.ThreadMXBean) ManagementFactory.getThreadMXBean();
        long id = Thread.currentThread().getId();
        run(64);
        long before = threads.getThreadAllocatedBytes(id);
        long start = System.nanoTime();
        run(512);
        long bytes = threads.getThreadAllocatedBytes(id) - before;
        long millis = (System.nanoTime() - start) / 1_000_000;
        wrong += bytes > MOST_BYTES ? 1 : 0;
        System.out.println("RoomTest: " + bytes + " bytes made, " + millis + " ms, " + (wrong == 0 ? "all as due" : "too many"));
        if (wrong > 0) {
            System.exit(1);
        }
    }

    /** "times 5(times 5(times 2(lift 0 to 15;swap 3 9;turn 1;lift 14 to 2 if 1;)))" told word by word. */
    private static void tell(RoundStool x, int k) {
        x.feed(0x74696D65, 0x73203528, 0x74696D65, 0x73203528, 0x74696D65);
        x.feed(0x73203228, 0x6C696674, 0x20302074, 0x6F203135, 0x3B737761);
        x.feed(0x70203320, 0x393B7475, 0x726E2031, 0x3B6C6966, 0x74203134);
        x.feed(0x20746F20, 0x32206966, 0x20313B29, 0x29292020, 0x20202020);
        if (x.text(k) != 200) {
            wrong++;
            System.out.println("the text is not told: fault " + x.fault(0) + " at " + x.fault(1));
        }
    }

    private static void run(int calls) {
        RoundStool x = new RoundStool();
        x.stool(16);
        for (int s = 0; s < 16; s++) {
            x.colour(s, s % 3);
        }
        for (int k = 0; k < 4; k++) {
            tell(x, k);
        }
        for (int i = 0; i < calls; i++) {
            switch (i % 16) {
                case 0 -> x.sing(0, 50);
                case 1 -> x.back(1, 0);
                case 2 -> x.back(2, 1);
                case 3 -> x.where(3, 5, 99, true);
                case 4 -> x.cut(0);
                case 5 -> x.dropped(0, 30, 0);
                case 6 -> x.beats(1, 1);
                case 7 -> x.name(29, 3);
                case 8 -> x.lay(2);
                case 9 -> x.pulled(15);
                case 10 -> x.loops(-1);
                case 11 -> x.alike(2, 3);
                case 12 -> x.period(0);
                case 13 -> x.undo();
                case 14 -> x.image(i % 32 < 16);
                default -> tell(x, i % 4);
            }
        }
    }
}
