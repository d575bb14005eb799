/** Promises 9, 10 and 13: processes that end, are killed, are reaped, have children and wait. */
public final class ProcessTest {
    private static final String BUSY = "l: 1 drop jump l";

    public static void main(String[] args) {
        killing();
        reaping();
        spawning();
        spawningTheLast();
        waiting();
        waitingForNoChild();
        killingChildren();
        orphans();
        endingFreesAll();
        programsGo();
        asking();
        Check.close("ProcessTest");
    }

    private static void killing() {
        ShareMonitor m = Check.with(BUSY, "recv", "readkey", "5 sleep", "0 down");
        m.quantum(2);
        m.run(9);
        int[] states = {1, 2, 4, 5, 6};
        for (int p = 1; p <= 5; p++) {
            Check.same("state of " + p, m.state(p, 0), states[p - 1]);
            Check.yes("alive " + p, m.kill(p));
            Check.same("ENDED " + p, m.state(p, 0), 7);
            Check.same("code " + p, m.state(p, 1), -1);
            Check.same("awaits nothing " + p, m.state(p, 11), 0);
            Check.no("not alive " + p, m.kill(p));
        }
        Check.same("the semaphore's row", m.semaphore(0, 1), 0);
        Check.same("none", m.run(20), 0);
        Check.no("a free one", m.kill(6));
        Check.refused("process 0", m, IndexOutOfBoundsException.class, () -> m.kill(0));
        Check.refused("process 13", m, IndexOutOfBoundsException.class, () -> m.kill(13));
        Check.refused("process -1", m, IndexOutOfBoundsException.class, () -> m.kill(-1));
    }

    private static void reaping() {
        ShareMonitor m = Check.with("77 exit", "spawn a wait a: 5 exit", BUSY);
        Check.refused("READY", m, IllegalStateException.class, () -> m.reap(1));
        Check.refused("FREE", m, IllegalStateException.class, () -> m.reap(12));
        Check.refused("process 0", m, IndexOutOfBoundsException.class, () -> m.reap(0));
        Check.refused("process 13", m, IndexOutOfBoundsException.class, () -> m.reap(13));
        m.run(2);
        Check.same("code", m.reap(1), 77);
        for (int what = 0; what <= 12; what++) {
            Check.same("FREE: state " + what, m.state(1, what), 0);
        }
        Check.refused("again", m, IllegalStateException.class, () -> m.reap(1));
        m.tick();
        Check.same("the child is the least free", m.stack(2, 0), 1);
        Check.yes("the child", m.kill(1));
        Check.refused("ENDED, with a parent", m, IllegalStateException.class, () -> m.reap(1));
        Check.yes("the parent", m.kill(2));
        Check.same("the child is free", m.state(1, 0), 0);
        Check.same("the parent's code", m.reap(2), -1);
    }

    private static void spawning() {
        ShareMonitor m = new ShareMonitor();
        Check.load(m, "9 spawn a 8 spawn b a: 1 emit b: 2 emit", 1);
        m.run(2);
        int[] state = {1, 0, 1, 1, 4, 0, 0, 0, 0, 0, 0, 0, 0};
        for (int what = 0; what < state.length; what++) {
            Check.same("the child's state " + what, m.state(2, what), state[what]);
        }
        Check.same("its number", m.stack(1, 1), 2);
        m.run(2);
        Check.same("the other's next", m.state(3, 4), 6);
        Check.same("the other's parent", m.state(3, 3), 1);
        Check.same("one program", m.count(8), 1);
        Check.same("row", m.ready(1, 0), 2);
        Check.same("row", m.ready(1, 1), 3);
        Check.same("row", m.ready(1, 2), 1);
    }

    private static void spawningTheLast() {
        ShareMonitor m = Check.with("l: spawn a emit jump l a: 1000 sleep");
        m.run(100);
        for (int i = 0; i < 11; i++) {
            Check.same("spawned", m.out(i), i + 2);
        }
        Check.same("none is free", m.out(11), -1);
        Check.same("alive", m.count(5), 12);
    }

    private static void waiting() {
        ShareMonitor m = Check.with("spawn a wait emit emit 2 wait emit emit a: 4 drop 42 exit");
        m.quantum(100);
        m.run(2);
        Check.same("waits for an end", m.state(1, 0), 3);
        Check.same("the child", m.state(1, 11), 2);
        Check.same("not done", m.state(1, 4), 1);
        Check.same("the stack as before", m.stack(1, 0), 2);
        Check.same("done", m.state(1, 10), 1);
        Check.same("none in a row", m.state(1, 12), 0);
        m.run(4);
        Check.same("the child is ENDED", m.state(2, 0), 7);
        Check.same("its code", m.state(2, 1), 42);
        Check.same("its done ones", m.state(2, 10), 3);
        Check.same("the parent is READY", m.state(1, 0), 1);
        Check.same("and awaits nothing", m.state(1, 11), 0);
        m.tick();
        Check.same("the child is FREE", m.state(2, 0), 0);
        Check.same("code", m.stack(1, 0), 42);
        Check.same("1", m.stack(1, 1), 1);
        m.run(6);
        Check.same("no child any more", m.out(2), 0);
        Check.same("no child any more", m.out(3), 0);
    }

    private static void waitingForNoChild() {
        ShareMonitor m = Check.with("1 wait + emit 2 wait + emit 0 wait + emit 13 wait + emit -1 wait + emit 9 wait + emit",
            BUSY);
        m.run(200);
        Check.same("all are told", m.count(1), 6);
        for (int i = 0; i < 6; i++) {
            Check.same("0 and 0", m.out(i), 0);
        }
        m = Check.with("spawn a spawn a drop wait a: recv");
        m.run(20);
        m.kill(3);
        Check.same("another child's end", m.state(1, 0), 3);
        m.kill(2);
        Check.same("its end", m.state(1, 0), 1);
        m.tick();
        Check.same("killed", m.stack(1, 0), -1);
        m.kill(1);
        Check.same("the other is free", m.state(3, 0), 0);
    }

    private static void killingChildren() {
        ShareMonitor m = Check.with("spawn a dup kill emit dup kill emit 1 kill emit 4 kill emit 0 kill emit 99 kill emit "
            + "wait + emit yield a: recv", "9 sleep");
        m.run(200);
        Check.same("the child", m.out(0), 0);
        for (int i = 1; i <= 5; i++) {
            Check.same("no child that is alive", m.out(i), -1);
        }
        Check.same("its code -1, and 1", m.out(6), 0);
    }

    private static void orphans() {
        ShareMonitor m = Check.with("spawn a drop spawn b drop spawn a drop yield yield 5 exit a: recv b: 6 exit");
        m.run(60);
        Check.same("the parent", m.state(1, 1), 5);
        Check.same("alive, without parent", m.state(2, 0), 2);
        Check.same("alive, without parent", m.state(2, 3), 0);
        Check.same("ENDED: free", m.state(3, 0), 0);
        Check.same("alive, without parent", m.state(4, 3), 0);
        m.kill(4);
        Check.same("no parent: can be reaped", m.reap(4), -1);
        Check.same("the parent can be reaped", m.reap(1), 5);
        Check.same("the program stays", m.count(8), 1);
        m.kill(2);
        m.reap(2);
        Check.same("the program goes", m.count(8), 0);
    }

    private static void endingFreesAll() {
        ShareMonitor m = Check.with("call a a: 5 alloc 7 alloc 1 2 recv drop readkey");
        m.run(8);
        for (int i = 0; i < 3; i++) {
            m.post(1, i);
            m.key(1, i);
        }
        Check.same("returns", m.state(1, 6), 1);
        Check.same("messages", m.state(1, 7), 3);
        Check.same("keys", m.state(1, 8), 3);
        Check.same("cells", m.state(1, 9), 12);
        m.kill(1);
        for (int what = 4; what <= 12; what++) {
            if (what != 10) {
                Check.same("ENDED: state " + what, m.state(1, what), 0);
            }
        }
        Check.same("instructions it did", m.state(1, 10), 7);
        Check.same("one free block", m.count(4), 1);
        Check.text("no message", Check.thrownBy(() -> m.message(1, 0, false)),
            IndexOutOfBoundsException.class.getName());
    }

    private static void programsGo() {
        ShareMonitor m = Check.with("spawn a spawn a 7 exit a: recv", "1 2 3");
        m.run(20);
        Check.same("both are ENDED or have alive ones", m.count(8), 2);
        Check.same("instructions", m.count(9), 8);
        m.reap(2);
        Check.same("one is gone", m.count(8), 1);
        Check.same("instructions", m.count(9), 5);
        m.reap(1);
        Check.same("children have it", m.count(8), 1);
        m.kill(3);
        m.kill(4);
        Check.same("ENDED ones have it", m.count(8), 1);
        m.reap(3);
        m.reap(4);
        Check.same("none has it", m.count(9), 0);
        for (int i = 0; i < 30; i++) {
            Check.same("programs come and go", Check.load(m, "1 1 exit", 0), 1);
            m.run(3);
            m.reap(1);
        }
    }

    private static void asking() {
        ShareMonitor m = Check.with("5 3 alloc 2 sleep recv");
        Check.refused("process 0", m, IndexOutOfBoundsException.class, () -> m.state(0, 0));
        Check.refused("process 13", m, IndexOutOfBoundsException.class, () -> m.state(13, 0));
        Check.refused("what -1", m, IndexOutOfBoundsException.class, () -> m.state(1, -1));
        Check.refused("what 13", m, IndexOutOfBoundsException.class, () -> m.state(1, 13));
        m.run(5);
        int[] state = {5, 0, 0, 0, 5, 2, 0, 0, 0, 3, 5, 7, 0};
        for (int what = 0; what < state.length; what++) {
            Check.same("state " + what, m.state(1, what), state[what]);
        }
    }
}
