import java.lang.management.ManagementFactory;

/** All calls of one run live in one room: an object is small, and its calls make nothing more. */
public final class RoomTest {
    private static final long MOST_FOR_AN_OBJECT = 64_000, MOST_FOR_CALLS = 16_000;

    private RoomTest() {
    }

    public static void main(String[] args) {
        Due due = new Due();
        com.sun.management.ThreadMXBean threads = (com.sun.management.ThreadMXBean) ManagementFactory.getThreadMXBean();
        used(threads, null);
        long ahead = threads.getCurrentThreadAllocatedBytes();
        PatchHouse x = new PatchHouse();
        long made = threads.getCurrentThreadAllocatedBytes() - ahead;
        due.is("bytes for an object: " + made, made < MOST_FOR_AN_OBJECT);
        long calls = used(threads, x);
        due.is("bytes for 512 calls: " + calls, calls < MOST_FOR_CALLS);
        due.end("RoomTest");
    }

    private static long used(com.sun.management.ThreadMXBean threads, PatchHouse given) {
        PatchHouse x = given == null ? new PatchHouse() : given;
        long ahead = threads.getCurrentThreadAllocatedBytes();
        for (int k = 0; k < 512; k++) {
            call(x, k);
        }
        return threads.getCurrentThreadAllocatedBytes() - ahead;
    }

    private static void call(PatchHouse x, int k) {
        int house = k % 2;
        switch (k / 2 % 12) {
            case 0 -> x.begin(97 + k % 26);
            case 1 -> x.record(house, 0, 0, 97 + k % 26);
            case 2 -> x.drift(4, k + 1);
            case 3 -> x.pull(house, k % 24);
            case 4 -> x.house(house, 4);
            case 5 -> x.change(house, k % 24, 2);
            case 6 -> x.shelveText(k % 4, house);
            case 7 -> x.shelve(k % 4, house, 0);
            case 8 -> x.oppose(k % 4, house);
            case 9 -> x.undo();
            case 10 -> x.keep(house);
            default -> x.takeOff(house, k % 24);
        }
        if (k % 64 == 63) {
            x.anew();
        }
    }
}
