import com.sun.management.ThreadMXBean;
import java.lang.management.ManagementFactory;

/** All calls of one run live in one room: only a new object and a new TEXT make anything, and little. */
public final class RoomTest {
    private static final ThreadMXBean BEAN = (ThreadMXBean) ManagementFactory.getThreadMXBean();
    private static final int OBJECT_MOST = 40000, TEXT_MOST = 600, CALLS_MOST = 4000;

    public static void main(String[] args) {
        new RoomTest().goThrough(); // what the Java machine itself makes at first is made here
        boolean fine = true;
        for (int i = 0; i < 3 && fine; i++) fine = new RoomTest().goThrough();
        System.out.println(fine ? "the room is large enough" : "too much is made");
        if (!fine) System.exit(1);
    }

    private static long made() { return BEAN.getThreadAllocatedBytes(Thread.currentThread().getId()); }

    private boolean goThrough() {
        long start = made();
        ElevenParts x = new ElevenParts();
        long object = made() - start;
        feed(x);
        start = made();
        x.text();
        long text = made() - start;
        start = made();
        long sum = 0;
        for (int round = 0; round < 3; round++) sum += all(x, round);
        long calls = made() - start;
        System.out.println("an object " + object + " bytes, a text " + text + ", all other calls " + calls + " (" + sum + ")");
        return object <= OBJECT_MOST && text <= TEXT_MOST && calls <= CALLS_MOST;
    }

    /** say g+g+ .. +g, 96 bytes of it */
    private static void feed(ElevenParts x) {
        int two = 'g' << 8 | '+', four = two << 16 | two;
        x.feed('s' << 24 | 'a' << 16 | 'y' << 8 | ' ', four, four);
        for (int i = 1; i < 8; i++) x.feed(four, four, four);
        x.trim(95);
    }

    private static long all(ElevenParts x, int round) {
        long sum = x.deal(10) + x.part(0, 1, 1, 1) + x.ahead(round % 3, 5 + round % 4, 1) + x.book(0, 5, 6) + x.line(0, 1) + x.factor(-1);
        for (int what = 0; what <= 10; what++) sum += x.told(round, what);
        sum += x.as(0, 0) + x.turns(0, 1) + x.set(1, 2, 5) + x.seed(round) + x.together() + x.end() + x.critical() + x.staffed(2);
        sum += x.more(1, 1, 2) + x.odds(50, 0) + x.span(50) + x.mean(1) + x.works(1, 40) + x.fine(3);
        sum += x.feed(1, 2, 3) + x.trim(0) + x.textTold(0, 1) + x.why(0) + x.keep() + x.back();
        sum += x.sheet(0, 1, 24) + x.mark(0, 3, 7) + x.table(0, 3) + x.copy(0, 0, 0, 1, 20) + x.lay(0, 2, 0) + x.lay(1, 1, 0) + x.lay(2, 3, 9);
        sum += x.pour(0) + x.ask(1, 0) + x.item(0, 3) + x.rest(2, 4) + x.check(0, 30);
        for (int i = 0; i < 61; i++) sum += x.tell(i);
        sum += x.check(1, 30);
        for (int what = 0; what < 7; what++) sum += x.count(what);
        return sum;
    }
}
