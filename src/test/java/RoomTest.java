import com.sun.management.ThreadMXBean;
import java.lang.management.ManagementFactory;

/** Only the constructor makes objects, and few: the calls of a run together have one room. */
public final class RoomTest {
    private static final Due DUE = new Due("RoomTest");
    private static final ThreadMXBean THREADS = (ThreadMXBean) ManagementFactory.getThreadMXBean();
    private static final StripDepths[] KEPT = new StripDepths[100];

    public static void main(String[] args) {
        calls();
        newObjects();
        DUE.end();
    }

    private static void calls() {
        StripDepths x = new StripDepths();
        // Once ahead, as the first call of each loads what it needs.
        callAll(x);
        long before = THREADS.getCurrentThreadAllocatedBytes();
        for (int i = 0; i < 9; i++) {
            callAll(x);
        }
        long made = THREADS.getCurrentThreadAllocatedBytes() - before;
        DUE.holds("at most 2000 bytes are made, not " + made, made <= 2000);
    }

    /** A thousand new objects are to fit the room of 7.3 million fields and elements, of 4 bytes each. */
    private static void newObjects() {
        long before = THREADS.getCurrentThreadAllocatedBytes();
        for (int i = 0; i < KEPT.length; i++) {
            KEPT[i] = new StripDepths();
        }
        long made = (THREADS.getCurrentThreadAllocatedBytes() - before) / KEPT.length;
        DUE.holds("a new object has at most 29200 bytes, not " + made, made <= 29200);
    }

    private static void callAll(StripDepths x) {
        x.lay(0, 16, 3, 31, 2);
        x.shift(1, 3);
        x.swap(0, 1);
        x.turn(2);
        x.print(0);
        x.paint(0, 5, 5);
        x.wipe(1);
        x.set(StripDepths.PERIOD, 9);
        x.lot(7);
        x.append('5');
        x.wind();
        x.unwind();
        drawOne(x);
        x.clear();
        x.printAll();
        x.save();
        x.restore();
        x.undo();
        lookAtAll(x);
    }

    private static void drawOne(StripDepths x) {
        x.append('5');
        x.append(',');
        x.append('7');
        x.append(':');
        x.append('1');
        x.fault(0);
        x.draw();
    }

    private static void lookAtAll(StripDepths x) {
        x.at(0, 9, 6);
        x.fits(0, 9, 2);
        x.row(0, 8);
        x.echo(0, 4);
        x.echoAt(0, 4);
        x.faulty(4);
        x.plane(2, 1);
        x.pictures();
        x.count(6);
        x.away(3);
        x.clearness(0);
        x.ifPainted(0, 9, 1, 2);
        x.ifPrinted(0, 7);
        x.shortest(0);
        x.bestWindow(0);
        x.alike(0, 1);
    }
}
