import com.sun.management.ThreadMXBean;
import java.lang.management.ManagementFactory;

/** What an object needs is made with it: no call of a run makes objects or arrays. */
public final class RoomTest {
    private static final ThreadMXBean THREADS = (ThreadMXBean) ManagementFactory.getThreadMXBean();
    private static final int TURNS = 25;
    private static final long ROOM_OF_AN_OBJECT = 20_000;
    /** The machine makes a little by itself while it runs. */
    private static final long ROOM_OF_THE_CALLS = 20_000;

    public static void main(String[] args) {
        run(new BulbShapes());
        long start = allocated();
        BulbShapes x = new BulbShapes();
        long made = allocated();
        run(x);
        long end = allocated();
        Check.due("room of an object: " + (made - start), made - start < ROOM_OF_AN_OBJECT, true);
        Check.due("room of its calls: " + (end - made), end - made < ROOM_OF_THE_CALLS, true);
        Check.end();
    }

    private static long allocated() {
        return THREADS.getThreadAllocatedBytes(Thread.currentThread().getId());
    }

    private static void run(BulbShapes x) {
        x.set(1, 1);
        for (int i = 0; i < TURNS; i++) {
            x.mend(2);
            x.mend(3);
            x.number(i % 100);
            x.lamp(i % 4, i % 15, true);
            x.pass(150);
            x.append('0' + i % 4);
            x.append('-');
            x.append('c');
            x.lamps();
            x.worstLamp(i % 4);
            x.strictest(i % 4);
            x.ifBurnt(i % 4, 3, 1);
            x.mend(0);
            x.digest();
            x.undo();
            x.show(1, 0);
            x.mend(1);
            x.read(2, i);
            x.digest();
        }
    }
}
