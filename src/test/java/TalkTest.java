/** Promises 11, 12, 15 and 20: keys, messages and the console. */
public final class TalkTest {
    public static void main(String[] args) {
        keys();
        posting();
        sending();
        console();
        Check.close("TalkTest");
    }

    private static void keys() {
        ShareMonitor m = Check.with("l: readkey emit jump l");
        m.tick();
        Check.same("waits for a key", m.state(1, 0), 4);
        Check.same("not done", m.state(1, 10), 0);
        Check.yes("room", m.key(1, -7));
        Check.same("READY", m.state(1, 0), 1);
        Check.yes("room", m.key(1, 300));
        Check.same("keys", m.state(1, 8), 2);
        m.run(3);
        Check.same("the first one is taken", m.state(1, 8), 1);
        m.run(20);
        Check.same("first in, first out", m.out(0), -7);
        Check.same("first in, first out", m.out(1), 300);
        for (int i = 0; i < 8; i++) {
            Check.yes("room", m.key(1, i));
        }
        String before = Picture.of(m);
        Check.no("no room", m.key(1, 9));
        Check.text("a key that is lost", Picture.of(m), before);
        m.run(50);
        Check.same("all eight", m.count(1), 10);
        Check.same("the last", m.out(9), 7);
        ShareMonitor other = Check.with("recv");
        other.tick();
        other.key(1, 5);
        Check.same("waits for a message, not a key", other.state(1, 0), 2);
        Check.refused("process 0", m, IndexOutOfBoundsException.class, () -> m.key(0, 1));
        Check.refused("process 13", m, IndexOutOfBoundsException.class, () -> m.key(13, 1));
        Check.refused("a free one", m, IllegalStateException.class, () -> m.key(2, 1));
        m.kill(1);
        Check.refused("an ended one", m, IllegalStateException.class, () -> m.key(1, 1));
    }

    private static void posting() {
        ShareMonitor m = Check.with("recv");
        for (int i = 0; i < 8; i++) {
            Check.yes("room", m.post(1, 100 + i));
        }
        String before = Picture.of(m);
        Check.no("no room", m.post(1, 9));
        Check.text("a message that is lost", Picture.of(m), before);
        Check.same("first", m.message(1, 0, false), 100);
        Check.same("last", m.message(1, 7, false), 107);
        Check.same("whose", m.message(1, 7, true), 0);
        Check.refused("message 8", m, IndexOutOfBoundsException.class, () -> m.message(1, 8, false));
        Check.refused("message -1", m, IndexOutOfBoundsException.class, () -> m.message(1, -1, true));
        Check.refused("process 0", m, IndexOutOfBoundsException.class, () -> m.message(0, 0, true));
        Check.refused("process 13", m, IndexOutOfBoundsException.class, () -> m.message(13, 0, true));
        m.tick();
        Check.same("number", m.stack(1, 0), 100);
        Check.same("whose", m.stack(1, 1), 0);
        Check.same("the next one is first", m.message(1, 0, false), 101);
        Check.same("messages", m.state(1, 7), 7);
        ShareMonitor other = Check.with("recv readkey");
        other.tick();
        Check.same("waits", other.state(1, 0), 2);
        other.post(1, 4);
        Check.same("READY", other.state(1, 0), 1);
        Check.same("in its row", other.ready(0, 0), 1);
        other.run(2);
        other.post(1, 4);
        Check.same("waits for a key, not a message", other.state(1, 0), 4);
        Check.refused("process 0", m, IndexOutOfBoundsException.class, () -> m.post(0, 1));
        Check.refused("process 13", m, IndexOutOfBoundsException.class, () -> m.post(13, 1));
        Check.refused("a free one", m, IllegalStateException.class, () -> m.post(2, 1));
        m.kill(1);
        Check.refused("an ended one", m, IllegalStateException.class, () -> m.post(1, 1));
    }

    private static void sending() {
        ShareMonitor m = Check.with("5 2 send emit 6 2 send emit 7 1 send emit 8 3 send emit 8 0 send emit 8 13 send emit "
            + "recv emit emit l: yield jump l", "recv emit emit 9 sleep 500 sleep");
        m.quantum(100);
        m.run(32);
        Check.same("to another", m.out(0), 0);
        Check.same("to another", m.out(1), 0);
        Check.same("to itself", m.out(2), 0);
        Check.same("to a free one", m.out(3), -1);
        Check.same("to none", m.out(4), -1);
        Check.same("to none", m.out(5), -1);
        Check.same("its own: whose", m.out(6), 1);
        Check.same("its own: number", m.out(7), 7);
        m.run(10);
        Check.same("whose", m.out(8), 1);
        Check.same("number", m.out(9), 5);
        Check.same("the second stays", m.message(2, 0, false), 6);
        Check.same("whose it is", m.message(2, 0, true), 1);
        ShareMonitor full = Check.with("l: 3 1 send emit jump l");
        full.run(45);
        Check.same("the eighth", full.out(7), 0);
        Check.same("a full box", full.out(8), -2);
        Check.same("messages", full.state(1, 7), 8);
        ShareMonitor waked = new ShareMonitor();
        Check.load(waked, "recv", 0);
        Check.load(waked, "5 1 send 7", 1);
        waked.run(4);
        Check.same("send wakes a lesser level", waked.state(1, 0), 1);
        Check.same("who is first from the next tick on", waked.tick(), 1);
        Check.same("whose", waked.stack(1, 1), 2);
    }

    private static void console() {
        ShareMonitor m = Check.with("1 l: dup emit 1 + jump l");
        Check.refused("an empty console", m, IndexOutOfBoundsException.class, () -> m.out(0));
        m.run(5000);
        m.run(4996);
        Check.same("numbers", m.count(1), 1999);
        m.run(5);
        Check.same("the last one", m.out(1999), 2000);
        Check.same("none lost", m.count(2), 0);
        m.run(15);
        Check.same("numbers", m.count(1), 2000);
        Check.same("lost ones", m.count(2), 3);
        Check.same("the first", m.out(0), 1);
        Check.same("the last one", m.out(1999), 2000);
        Check.refused("number 2000", m, IndexOutOfBoundsException.class, () -> m.out(2000));
        Check.refused("number -1", m, IndexOutOfBoundsException.class, () -> m.out(-1));
    }
}
