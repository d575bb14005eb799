import java.lang.management.ManagementFactory;

/** All calls of a run live in one room: what a new object has is small, and calls make nothing. */
public final class RoomTest {
    private static final String[] TEXTS = {
        "l: 1 drop jump l",
        "l: spawn c dup wait drop drop kill drop jump l c: 3 alloc drop 2 sleep 1 exit",
        "l: 5 alloc dup 7 swap ! free drop 100 alloc free drop jump l",
        "l: 1 self send drop recv emit drop jump l",
        "l: 0 up 0 down 1 sleep 2 level yield 0 level jump l"
    };

    public static void main(String[] args) {
        long fresh = bytesOf(ShareMonitor::new);
        // 7.3 million elements are the room; a new object may have a small part of it.
        Check.yes("a new object is small: " + fresh, fresh < 1000000);
        ShareMonitor m = Check.with(TEXTS);
        long used = bytesOf(() -> callOften(m));
        Check.yes("calls make nothing: " + used, used < 100000);
        Check.same("they live", m.count(5) >= 4 ? 1 : 0, 1);
        Check.close("RoomTest");
    }

    private static void callOften(ShareMonitor m) {
        for (int i = 0; i < 512; i++) {
            m.run(5000);
            m.feed(i, i, i, i, i);
            m.load(0);
            for (int what = 0; what <= 10; what++) {
                m.count(what);
                m.state(1, what);
            }
            m.block(0, 1);
            m.key(1, 5);
            m.post(1, 5);
        }
    }

    private static long bytesOf(Check.Call call) {
        com.sun.management.ThreadMXBean bean = (com.sun.management.ThreadMXBean) ManagementFactory.getThreadMXBean();
        long before = bean.getCurrentThreadAllocatedBytes();
        call.make();
        return bean.getCurrentThreadAllocatedBytes() - before;
    }
}
