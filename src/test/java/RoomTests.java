import com.sun.management.ThreadMXBean;
import java.lang.management.ManagementFactory;

/** All calls of a run share one room: an object is small, and its calls make nothing new. */
public final class RoomTests {
    private static final long MOST_BYTES_AN_OBJECT = 16000, MOST_BYTES_ALL_CALLS = 20000;

    public static void main(String[] args) {
        Due due = new Due();
        ThreadMXBean room = (ThreadMXBean) ManagementFactory.getThreadMXBean();
        use(new BonfireHeaps());
        long start = room.getCurrentThreadAllocatedBytes();
        BonfireHeaps heaps = new BonfireHeaps();
        long made = room.getCurrentThreadAllocatedBytes() - start;
        use(heaps);
        long used = room.getCurrentThreadAllocatedBytes() - start - made;
        due.holds("a new object takes " + made + " bytes", made <= MOST_BYTES_AN_OBJECT);
        due.holds("its calls take " + used + " bytes", used <= MOST_BYTES_ALL_CALLS);
        due.end("RoomTests");
    }

    private static void use(BonfireHeaps heaps) {
        char[] text = "b1;g30,0;g30,0;g30,2;g30,0;g30,0;g30,3;g30,0;g30,0;".toCharArray();
        for (char letter : text) {
            heaps.feed(letter);
        }
        heaps.heap();
        heaps.light(0);
        for (int i = 0; i < 20; i++) {
            heaps.row(i % 8, 2, 40);
            heaps.set(i % 8, i, i);
            heaps.copy(i % 8, 0, i % 8, 1, 39);
            heaps.drop(i % 8);
            heaps.row(i % 8, 2, 40);
            heaps.wind();
            heaps.hours(1);
            heaps.undo();
            heaps.swap(0, 1);
            heaps.later(60, 1);
            heaps.kindle(255, 60, 0);
            heaps.spare(3, 30);
            heaps.laying(30, 0);
            heaps.fits(0, i % 8, 0, 12, 2);
            heaps.rain(7, 60, 3, 0);
            heaps.drawn(60, 7, 1);
            heaps.image(0);
            heaps.restore(0);
            heaps.ask(0, 0);
            heaps.dead(1);
        }
    }
}
