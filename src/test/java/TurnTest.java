/** Promises 6 to 8 and 16: ticks, runs, the quantum, levels, yield and the rows of the READY. */
public final class TurnTest {
    private static final String BUSY = "l: 1 drop jump l";

    public static void main(String[] args) {
        idleTicks();
        turns();
        quantum();
        smallerQuantum();
        allCount();
        levels();
        keptStreak();
        yielding();
        changingLevel();
        running();
        asking();
        Check.close("TurnTest");
    }

    private static void idleTicks() {
        ShareMonitor m = new ShareMonitor();
        Check.same("none", m.tick(), -1);
        Check.same("the clock goes on", m.count(0), 1);
        Check.load(m, "recv", 0);
        Check.same("it tries", m.tick(), 1);
        Check.same("it waits", m.tick(), -1);
        m.post(1, 3);
        Check.same("it receives", m.tick(), 1);
        Check.same("it is trapped", m.tick(), 1);
        Check.same("it is ENDED", m.tick(), -1);
        Check.same("clock", m.count(0), 6);
    }

    private static void turns() {
        ShareMonitor m = Check.with(BUSY, BUSY, BUSY);
        int[] want = {1, 1, 1, 1, 2, 2, 2, 2, 3, 3, 3, 3, 1};
        for (int i = 0; i < want.length; i++) {
            Check.same("turn " + i, m.tick(), want[i]);
        }
        Check.same("in a row", m.state(1, 12), 1);
        Check.same("just came to the end", m.state(3, 12), 0);
        Check.row(m, 0, 1, 2, 3);
        m.run(3);
        Check.row(m, 0, 2, 3, 1);
        Check.same("just came to the end", m.state(1, 12), 0);
    }

    private static void quantum() {
        ShareMonitor m = Check.with(BUSY, BUSY);
        Check.same("4 at first", m.quantum(1), 4);
        for (int i = 0; i < 6; i++) {
            Check.same("one each", m.tick(), 1 + i % 2);
            Check.same("0 in a row", m.state(1 + i % 2, 12), 0);
        }
        Check.same("it was 1", m.quantum(100), 1);
        m.run(99);
        Check.same("99 in a row", m.state(1, 12), 99);
        Check.same("the hundredth", m.tick(), 1);
        Check.same("then the other", m.tick(), 2);
        Check.refused("quantum 0", m, IllegalArgumentException.class, () -> m.quantum(0));
        Check.refused("quantum 101", m, IllegalArgumentException.class, () -> m.quantum(101));
        Check.refused("quantum -1", m, IllegalArgumentException.class, () -> m.quantum(-1));
        Check.same("it was 100 still", m.quantum(4), 100);
    }

    private static void smallerQuantum() {
        ShareMonitor m = Check.with(BUSY, BUSY);
        m.run(3);
        m.quantum(2);
        Check.row(m, 0, 1, 2);
        Check.same("more than the quantum", m.tick(), 1);
        Check.row(m, 0, 2, 1);
    }

    /** Each instruction that is done counts in a row, but for those that place the process. */
    private static void allCount() {
        ShareMonitor m = Check.with("5 dup drop 6 swap over 7 rot + - * 3 / 2 % 1 and 1 or 1 xor not 1 left 1 right 0 = "
            + "0 < 0 > 4 alloc 9 over ! @ 0 free 3 1 give 2 1 send recv emit 0 wait 5 kill self 0 up 0 down zero b b: "
            + "call c spawn b jump d c: return d: 8 readkey");
        m.quantum(100);
        m.key(1, 7);
        int size = m.count(9);
        m.run(size);
        Check.same("all are done", m.state(1, 10), size);
        Check.same("all in a row", m.state(1, 12), size);
    }

    private static void levels() {
        ShareMonitor m = new ShareMonitor();
        Check.load(m, BUSY, 2);
        Check.load(m, BUSY, 1);
        m.run(5);
        Check.same("the lesser level alone", m.state(2, 10), 5);
        Check.same("the other does nothing", m.state(1, 10), 0);
        Check.load(m, "1 2 3 0 exit", 0);
        Check.same("the least level, from the next tick on", m.tick(), 3);
        m.run(4);
        Check.same("then level 1", m.tick(), 2);
        m.kill(2);
        Check.same("then level 2", m.tick(), 1);
    }

    private static void keptStreak() {
        ShareMonitor m = new ShareMonitor();
        Check.load(m, BUSY, 1);
        Check.load(m, BUSY, 1);
        m.run(3);
        Check.load(m, "0 exit", 0);
        Check.same("the lesser level", m.tick(), 3);
        Check.same("what was done in a row is kept", m.state(1, 12), 3);
        Check.row(m, 1, 1, 2);
        Check.same("exit", m.tick(), 3);
        Check.same("its fourth", m.tick(), 1);
        Check.same("then the other", m.tick(), 2);
    }

    private static void yielding() {
        ShareMonitor m = Check.with("l: 1 yield drop jump l", BUSY);
        m.tick();
        Check.same("yield", m.tick(), 1);
        Check.same("yield is done", m.state(1, 10), 2);
        Check.same("just came to the end", m.state(1, 12), 0);
        Check.same("next", m.state(1, 4), 2);
        Check.row(m, 0, 2, 1);
        ShareMonitor alone = Check.with("yield 0 sleep -5 sleep 7");
        alone.tick();
        Check.same("alone", alone.ready(0, 0), 1);
        alone.run(2);
        Check.same("sleep 0 is as yield", alone.state(1, 0), 1);
        Check.same("and comes to the end", alone.state(1, 12), 0);
        alone.run(2);
        Check.same("sleep -5 is as yield", alone.state(1, 0), 1);
        Check.same("and is done", alone.state(1, 10), 5);
        Check.same("the stack", alone.state(1, 5), 0);
    }

    private static void changingLevel() {
        ShareMonitor m = new ShareMonitor();
        Check.load(m, "2 level 1 0 level 3", 0);
        Check.load(m, BUSY, 2);
        m.run(2);
        Check.same("level", m.state(1, 2), 2);
        Check.same("just came to the end", m.state(1, 12), 0);
        Check.same("level is done", m.state(1, 10), 2);
        Check.row(m, 0);
        Check.row(m, 2, 2, 1);
        m.run(4);
        Check.row(m, 2, 1, 2);
        m.run(3);
        Check.row(m, 0, 1);
        Check.row(m, 2, 2);
        Check.same("one number left", m.state(1, 5), 1);
        ShareMonitor same = Check.with("0 level 7", BUSY);
        same.run(2);
        Check.row(same, 0, 2, 1);
    }

    private static void running() {
        ShareMonitor m = Check.with("1 2 3");
        Check.same("no tick", m.run(0), 0);
        Check.same("clock", m.count(0), 0);
        Check.same("three and the trap", m.run(10), 4);
        Check.same("clock", m.count(0), 10);
        Check.same("none", m.run(5000), 0);
        Check.same("clock", m.count(0), 5010);
        Check.refused("below 0", m, IllegalArgumentException.class, () -> m.run(-1));
        Check.refused("5001", m, IllegalArgumentException.class, () -> m.run(5001));
        Check.load(m, BUSY, 0);
        Check.same("all", m.run(5000), 5000);
        ShareMonitor sleeper = Check.with("l: 3 sleep jump l");
        Check.same("busy when it wakes", sleeper.run(8), 5);
    }

    private static void asking() {
        ShareMonitor m = Check.with(BUSY, BUSY);
        Check.refused("level -1", m, IndexOutOfBoundsException.class, () -> m.ready(-1, 0));
        Check.refused("level 3", m, IndexOutOfBoundsException.class, () -> m.ready(3, 0));
        Check.refused("place -1", m, IndexOutOfBoundsException.class, () -> m.ready(0, -1));
        Check.refused("place 2", m, IndexOutOfBoundsException.class, () -> m.ready(0, 2));
        Check.refused("an empty row", m, IndexOutOfBoundsException.class, () -> m.ready(1, 0));
        Check.refused("far", m, IndexOutOfBoundsException.class, () -> m.ready(0, Integer.MAX_VALUE));
    }
}
