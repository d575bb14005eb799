/** Promise 19, and sleep: those that wait for a semaphore or for the clock. */
public final class SemaphoreTest {
    public static void main(String[] args) {
        values();
        waitingInARow();
        killedInTheRow();
        sleeping();
        sleepersOfOneTime();
        longSleep();
        theMost();
        asking();
        Check.close("SemaphoreTest");
    }

    private static void values() {
        ShareMonitor m = Check.with("7 up 7 up 7 down 0 up 7");
        m.run(4);
        Check.same("two", m.semaphore(7, 0), 2);
        m.run(2);
        Check.same("one", m.semaphore(7, 0), 1);
        Check.same("READY still", m.state(1, 0), 1);
        Check.same("in a row", m.state(1, 12), 2);
        m.run(2);
        Check.same("another", m.semaphore(0, 0), 1);
        Check.same("none waits", m.semaphore(7, 1), 0);
    }

    private static void waitingInARow() {
        ShareMonitor m = Check.with("3 down 1 emit l: yield jump l", "3 down 2 emit l: yield jump l",
            "yield 3 up 3 up 3 up l: yield jump l");
        m.run(2);
        Check.same("waits", m.state(1, 0), 6);
        Check.same("for it", m.state(1, 11), 3);
        Check.same("the instruction is done", m.state(1, 10), 2);
        Check.same("next", m.state(1, 4), 2);
        Check.same("the number is gone", m.state(1, 5), 0);
        Check.same("none in a row", m.state(1, 12), 0);
        m.run(2);
        Check.same("two wait", m.semaphore(3, 1), 2);
        Check.same("first", m.semaphore(3, 2), 1);
        Check.same("second", m.semaphore(3, 3), 2);
        m.run(3);
        Check.same("the first is READY", m.state(1, 0), 1);
        Check.same("and waits for nothing", m.state(1, 11), 0);
        Check.same("the value stays", m.semaphore(3, 0), 0);
        Check.same("one waits", m.semaphore(3, 1), 1);
        Check.same("it is first", m.semaphore(3, 2), 2);
        m.run(60);
        Check.same("first", m.out(0), 1);
        Check.same("then", m.out(1), 2);
        Check.same("the third up", m.semaphore(3, 0), 1);
    }

    private static void killedInTheRow() {
        ShareMonitor m = Check.with("5 down", "5 down", "5 down", "5 up l: yield jump l");
        m.run(6);
        m.kill(2);
        Check.same("two wait", m.semaphore(5, 1), 2);
        Check.same("first", m.semaphore(5, 2), 1);
        Check.same("second", m.semaphore(5, 3), 3);
        m.kill(1);
        m.run(2);
        Check.same("the one that is left", m.state(3, 0), 1);
        Check.same("none waits", m.semaphore(5, 1), 0);
        Check.same("value", m.semaphore(5, 0), 0);
    }

    private static void sleeping() {
        ShareMonitor m = Check.with("3 sleep 1 sleep 7");
        m.run(2);
        Check.same("SLEEPS", m.state(1, 0), 5);
        Check.same("wakes at", m.state(1, 11), 5);
        Check.same("sleep is done", m.state(1, 10), 2);
        Check.same("next", m.state(1, 4), 2);
        Check.same("clock 3", m.tick(), -1);
        Check.same("clock 4", m.tick(), -1);
        Check.same("clock 5", m.tick(), 1);
        Check.same("awaits nothing", m.state(1, 11), 0);
        Check.same("clock 6", m.tick(), 1);
        Check.same("wakes at", m.state(1, 11), 7);
        Check.same("clock 7", m.tick(), 1);
        Check.same("READY", m.state(1, 5), 1);
    }

    private static void sleepersOfOneTime() {
        ShareMonitor m = Check.with("5 sleep 1", "3 sleep 2", "1 sleep 3", "9 sleep");
        m.quantum(100);
        m.run(2);
        m.run(2);
        m.run(2);
        // All three wake at 7; 3 fell asleep last.
        Check.same("by number", m.tick(), 4);
        Check.same("row", m.ready(0, 1), 1);
        Check.same("row", m.ready(0, 2), 2);
        Check.same("row", m.ready(0, 3), 3);
        ShareMonitor killed = Check.with("5 sleep 1", "9 sleep 1");
        killed.run(4);
        killed.kill(1);
        Check.same("none wakes", killed.run(8), 0);
        Check.same("until its time", killed.tick(), 2);
    }

    private static void longSleep() {
        ShareMonitor m = Check.with("2147483647 sleep", "2147483640 sleep");
        m.run(4);
        Check.same("at most", m.state(1, 11), 2147483647);
        Check.same("clock and more", m.state(2, 11), 2147483644);
        Check.same("sleeps on", m.run(5000), 0);
    }

    private static void theMost() {
        ShareMonitor m = new ShareMonitor();
        StringBuilder text = new StringBuilder("l: ");
        for (int i = 0; i < 126; i++) {
            text.append("dup up ");
        }
        Check.load(m, "2 " + text + "jump l", 0);
        for (int i = 0; i < 405; i++) {
            m.run(5000);
        }
        Check.same("the most", m.semaphore(2, 0), 1000000);
        Check.same("none trapped", m.count(5), 1);
    }

    private static void asking() {
        ShareMonitor m = Check.with("2 down");
        m.run(2);
        Check.refused("semaphore -1", m, IndexOutOfBoundsException.class, () -> m.semaphore(-1, 0));
        Check.refused("semaphore 8", m, IndexOutOfBoundsException.class, () -> m.semaphore(8, 0));
        Check.refused("what -1", m, IndexOutOfBoundsException.class, () -> m.semaphore(2, -1));
        Check.refused("what beyond", m, IndexOutOfBoundsException.class, () -> m.semaphore(2, 3));
        Check.refused("what far", m, IndexOutOfBoundsException.class, () -> m.semaphore(2, Integer.MAX_VALUE));
        Check.refused("what far below", m, IndexOutOfBoundsException.class, () -> m.semaphore(2, Integer.MIN_VALUE));
        Check.refused("none waits", m, IndexOutOfBoundsException.class, () -> m.semaphore(1, 2));
        Check.same("who", m.semaphore(2, 2), 1);
    }
}
