import com.sun.management.ThreadMXBean;
import java.lang.management.ManagementFactory;

/** All calls of a run share one room: once an object is there, no call of it makes another one. */
public final class RoomTest {
    private static final Check CHECK = new Check();
    private static final int[] SCHEMES = {1, 32773, 5, 3, 4};

    public static void main(String[] args) {
        ThreadMXBean threads = (ThreadMXBean) ManagementFactory.getThreadMXBean();
        FaxPages pages = Pages.bilevel("#.#.#.#.#.", ".#.#.#.#.#", "##########");
        long self = Thread.currentThread().getId();
        useAll(pages);
        long before = threads.getThreadAllocatedBytes(self);
        for (int i = 0; i < 100; i++) {
            useAll(pages);
        }
        long made = threads.getThreadAllocatedBytes(self) - before;
        CHECK.isTrue("few bytes are made by 3700 calls, not " + made, made < 20000);
        CHECK.end();
    }

    private static void useAll(FaxPages pages) {
        for (int scheme : SCHEMES) {
            pages.blank(false, 10, 3);
            pages.set(3, 1, 1);
            pages.write(scheme, true, 1);
            pages.read();
            pages.put(9, pages.at(9) ^ 255);
            pages.read();
            pages.add(pages.get(1, 1));
        }
        pages.cut(pages.size() - 1);
        pages.info(5);
    }
}
