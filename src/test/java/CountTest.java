/** Promise 21: how many there are. */
public final class CountTest {
    public static void main(String[] args) {
        ShareMonitor m = Check.with("5 alloc emit recv", "spawn a 3 exit a: l: yield jump l", "1 drop drop", "900 sleep");
        Check.feed(m, "1 2 3");
        counts(m, 0, 0, 0, 1024, 1, 4, 4, 0, 4, 14, 5);
        m.run(4);
        counts(m, 4, 1, 0, 1019, 2, 4, 3, 0, 4, 14, 5);
        m.run(30);
        counts(m, 34, 1, 0, 1019, 2, 3, 1, 2, 4, 14, 5);
        Check.same("reap", m.reap(3), -2);
        counts(m, 34, 1, 0, 1019, 2, 3, 1, 1, 3, 11, 5);
        Check.same("reap", m.reap(2), 3);
        counts(m, 34, 1, 0, 1019, 2, 3, 1, 0, 3, 11, 5);
        m.kill(1);
        counts(m, 34, 1, 0, 1024, 1, 2, 1, 1, 3, 11, 5);
        m.end(0);
        Check.same("tape", m.count(10), 0);
        Check.refused("what -1", m, IndexOutOfBoundsException.class, () -> m.count(-1));
        Check.refused("what 11", m, IndexOutOfBoundsException.class, () -> m.count(11));
        Check.refused("what far", m, IndexOutOfBoundsException.class, () -> m.count(Integer.MAX_VALUE));
        Check.close("CountTest");
    }

    private static void counts(ShareMonitor m, int... want) {
        for (int what = 0; what < want.length; what++) {
            Check.same("count " + what, m.count(what), want[what]);
        }
    }
}
