import java.lang.management.ManagementFactory;

/** All calls of a run live in one room: what an object is made of, and what its calls make. */
public final class RoomTest {
    private static final int CALLS = 512;
    private static int sum = 0;

    public static void main(String[] args) {
        long[] room = Inside.room(new BoxedPages());
        System.out.println(room[0] + " objects and arrays, " + room[1] + " fields and elements");
        Checks.due("512 new objects keep to 600000 objects", room[0] * CALLS <= 600000, true);
        Checks.due("512 new objects keep to 7300000 fields", room[1] * CALLS <= 7300000, true);
        Checks.due("references that are null, so that one would have to be looked at before its use", room[2], 0);
        callsMakeNothing();
        Checks.end();
    }

    private static void callsMakeNothing() {
        run(new BoxedPages());
        BoxedPages store = new BoxedPages();
        com.sun.management.ThreadMXBean threads = (com.sun.management.ThreadMXBean) ManagementFactory.getThreadMXBean();
        threads.getCurrentThreadAllocatedBytes();
        long before = threads.getCurrentThreadAllocatedBytes();
        run(store);
        long made = threads.getCurrentThreadAllocatedBytes() - before;
        // One object a call would be 8192 bytes; the counting itself may make a few.
        Checks.due("a run of calls makes nothing (" + made + " bytes)", made < 2000, true);
    }

    private static void run(BoxedPages s) {
        for (int i = 0; i < CALLS / 17; i++) {
            int x = i * 37 % 100;
            sum += s.insert(i, x, i, x + 5, i + 5) + s.insert(i, i, x, i + 5, x + 5) + s.insert(i, x, x, x, x);
            sum += s.delete(i, x, x, x, x) + s.take(x, 0, x + 1, 100) + s.count(0, 0, x, x) + s.within(0, 0, x, x);
            sum += s.pick(0, 0, x, x, 1) + (int) s.distance(x, x) + s.nearest(i, x) + s.around(1) + s.size();
            sum += (s.sound() ? 1 : 0) + (s.frugal() ? 1 : 0) + (s.cut(i % 6) ? 1 : 0);
            sum += s.insert(i, 0, 0, 0, 0) + (s.start() ? 1 : 0);
        }
    }
}
