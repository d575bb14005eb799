import java.util.function.IntConsumer;

/** The edges of the calls: each sentence of promises 1 to 21 that names one, and each refused call. */
public final class CallEdgeTest {
    private static final int MIN = Integer.MIN_VALUE;
    private static final int MAX = Integer.MAX_VALUE;
    private static final int BLANK = 0x20202020;
    private static final int[] NO_PROCESS = {MIN, -2, -1, 0, 13, 14, 256, MAX};
    private static final int[] FREE = {0, 0, 0, 0, 0, 0, 0, 0, 0, 0, 0, 0, 0};
    private static final String BUSY = "l: 1 drop jump l";

    public static void main(String[] args) {
        firstNamed();
        newObject();
        feed();
        feedRefused();
        end();
        endRefused();
        load();
        loadEmptiesTheTape();
        loadRefused();
        fault();
        tick();
        run();
        runRefused();
        quantum();
        quantumRefused();
        kill();
        reap();
        reapRefused();
        key();
        keyRefused();
        post();
        postRefused();
        state();
        stateOfFreeAndEnded();
        stateDone();
        stateAwaited();
        stateInARow();
        stateRefused();
        stack();
        message();
        ready();
        cell();
        block();
        semaphore();
        out();
        count();
        countRefused();
        Check.close("CallEdgeTest");
    }

    private static void none(ShareMonitor m, Class<?> thrown, int[] numbers, IntConsumer call) {
        for (int number : numbers) {
            Check.refused("with " + number, m, thrown, () -> call.accept(number));
        }
    }

    private static void noIndex(ShareMonitor m, int[] numbers, IntConsumer call) {
        none(m, IndexOutOfBoundsException.class, numbers, call);
    }

    private static void firstNamed() {
        Check.sentence("Methods throw what their comments name, the one named first when several would do");
        ShareMonitor m = Check.with(BUSY, BUSY, BUSY, BUSY, BUSY, BUSY, BUSY, BUSY, BUSY, BUSY, BUSY, BUSY);
        Check.feed(m, "foo");
        Check.refused("no level, none FREE", m, IndexOutOfBoundsException.class, () -> m.load(3));
        Check.refused("no level, none FREE", m, IndexOutOfBoundsException.class, () -> m.load(-1));
        Check.refused("none FREE, a fault", m, UnsupportedOperationException.class, () -> m.load(0));
        Check.same("the tape stays", m.count(10), 3);
    }

    private static void newObject() {
        Check.sentence("1: All processes FREE, memory one free block of 0s, the tape and the console empty");
        ShareMonitor m = new ShareMonitor();
        for (int p = 1; p <= 12; p++) {
            Check.states(m, p, FREE);
        }
        Check.blocks(m, 0, 1024, 0);
        for (int address = 0; address < 1024; address++) {
            Check.same("cell " + address, m.cell(address), 0);
        }
        for (int level = 0; level < 3; level++) {
            Check.row(m, level);
        }
        Check.console(m);
        int[] counts = {0, 0, 0, 1024, 1, 0, 0, 0, 0, 0, 0};
        for (int what = 0; what < counts.length; what++) {
            Check.same("count " + what, m.count(what), counts[what]);
        }
        ShareMonitor other = Check.with("5 alloc emit 0 up");
        other.run(5);
        Check.text("another object's doings", Picture.of(m), Picture.of(new ShareMonitor()));
    }

    private static void feed() {
        Check.sentence("2: Twenty bytes more of the tape, the highest of each number first: how many it has");
        ShareMonitor m = new ShareMonitor();
        Check.same("twenty", m.feed(0x2d313220, 0x33342035, 0x36203738, 0x20656d69, 0x74202020), 20);
        Check.same("load", m.load(0), 1);
        m.run(5);
        Check.numbers(m, 1, -12, 34, 56);
        Check.console(m, 78);
        // Bytes above 127 are bytes of a comment as any others.
        Check.same("twenty", m.feed(0x23ffff80, -1, MIN, 0x80808080, 0xfe0a3720), 20);
        Check.same("forty", m.feed(BLANK, BLANK, BLANK, BLANK, BLANK), 40);
        Check.same("load", m.load(0), 2);
        Check.same("one instruction more", m.count(9), 6);
        m.feed(BLANK, BLANK, BLANK, BLANK, BLANK);
        m.end(7);
        Check.same("behind what it keeps", m.feed(BLANK, BLANK, BLANK, BLANK, BLANK), 27);
    }

    private static void feedRefused() {
        Check.sentence("2: UnsupportedOperationException: they would be more than 8192");
        ShareMonitor m = new ShareMonitor();
        for (int i = 1; i <= 409; i++) {
            Check.same("feed", m.feed(BLANK, BLANK, BLANK, BLANK, BLANK), 20 * i);
        }
        Check.refused("8200", m, UnsupportedOperationException.class, () -> m.feed(1, 2, 3, 4, 5));
        m.end(8173);
        Check.refused("8193", m, UnsupportedOperationException.class, () -> m.feed(1, 2, 3, 4, 5));
        m.end(8172);
        Check.same("8192", m.feed(BLANK, BLANK, BLANK, BLANK, BLANK), 8192);
        Check.refused("8212", m, UnsupportedOperationException.class, () -> m.feed(1, 2, 3, 4, 5));
        Check.same("nothing was fed but blanks", m.load(0), -8193);
        Check.same("room again", m.feed(1, 2, 3, 4, 5), 20);
    }

    private static void end() {
        Check.sentence("3: The tape keeps its first n bytes");
        ShareMonitor m = new ShareMonitor();
        m.end(0);
        Check.same("none", m.count(10), 0);
        Check.feed(m, "12345 678 9");
        m.end(11);
        Check.same("all", m.count(10), 11);
        m.end(3);
        Check.same("three", m.count(10), 3);
        m.load(0);
        m.tick();
        Check.numbers(m, 1, 123);
        Check.feed(m, "1");
        m.end(0);
        Check.same("no instruction", m.load(0), -1);
        Check.same("its code", m.fault(), 7);
    }

    private static void endRefused() {
        Check.sentence("3: IllegalArgumentException: n is below 0, or it has not so many");
        ShareMonitor m = new ShareMonitor();
        none(m, IllegalArgumentException.class, new int[] {MIN, -1, 1, 20, 8192, MAX}, m::end);
        m.feed(BLANK, BLANK, BLANK, BLANK, BLANK);
        none(m, IllegalArgumentException.class, new int[] {MIN, -1, 21, 8192, MAX}, m::end);
        m.end(19);
        none(m, IllegalArgumentException.class, new int[] {-1, 20}, m::end);
        m.end(0);
        none(m, IllegalArgumentException.class, new int[] {-1, 1}, m::end);
    }

    private static void load() {
        Check.sentence("4: a program of a new process, without parent, READY, of that level: its number; -1 less the place ..");
        for (int level = 0; level <= 2; level++) {
            ShareMonitor m = new ShareMonitor();
            Check.same("its number", Check.load(m, BUSY, level), 1);
            Check.states(m, 1, 1, 0, level, 0, 0, 0, 0, 0, 0, 0, 0, 0, 0);
            Check.row(m, level, 1);
            Check.same("place 0", Check.load(m, "foo", level), -1);
            Check.same("place 1", Check.load(m, " foo", level), -2);
            Check.same("place 100", Check.load(m, " ".repeat(100) + "foo", level), -101);
            Check.row(m, level, 1);
            Check.states(m, 2, FREE);
        }
    }

    private static void loadEmptiesTheTape() {
        Check.sentence("4: The tape (which is empty then, with a fault, too)");
        String[] texts = {"1", "foo", "jump", "a: a:", "jump a", "", "1 ".repeat(257)};
        for (String text : texts) {
            ShareMonitor m = new ShareMonitor();
            Check.load(m, text, 0);
            Check.same("behind " + text, m.count(10), 0);
            Check.refused("end behind " + text, m, IllegalArgumentException.class, () -> m.end(1));
            Check.yes("a new text", Check.load(m, "5", 0) > 0);
        }
    }

    private static void loadRefused() {
        Check.sentence("4: IndexOutOfBoundsException: no such level; UnsupportedOperationException: no process is FREE");
        ShareMonitor m = new ShareMonitor();
        Check.feed(m, "recv");
        noIndex(m, new int[] {MIN, -1, 3, 4, MAX}, m::load);
        Check.same("the tape stays", m.load(2), 1);
        for (int p = 2; p <= 12; p++) {
            Check.load(m, BUSY, 0);
        }
        Check.feed(m, "recv");
        none(m, UnsupportedOperationException.class, new int[] {0, 1, 2}, m::load);
        m.kill(4);
        none(m, UnsupportedOperationException.class, new int[] {0, 1, 2}, m::load);
        m.reap(4);
        Check.same("one is FREE", m.load(0), 4);
    }

    private static void fault() {
        Check.sentence("5: The code of the fault of the latest load(); 0 if it had none, or before one");
        ShareMonitor m = new ShareMonitor();
        Check.same("before one", m.fault(), 0);
        String labels = "a: b: c: d: e: f: g: h: i: j: k: l: m: n: o: p: q: r: s: t: u: v: w: x: y: z: aa: ab: ac: ad: ae: af: ";
        String[] texts = {"foo", "jump", "a: a:", labels + "ag:", "1 ".repeat(257), "jump a", ""};
        for (int i = 0; i < texts.length; i++) {
            Check.load(m, texts[i], 0);
            Check.same("code", m.fault(), i + 1);
            m.tick();
            m.feed(BLANK, BLANK, BLANK, BLANK, BLANK);
            Check.same("it stays", m.fault(), i + 1);
            Check.text("a load that throws", Check.thrownBy(() -> m.load(3)), IndexOutOfBoundsException.class.getName());
            Check.same("it stays", m.fault(), i + 1);
            m.end(0);
        }
        Check.load(m, "1", 0);
        Check.same("none", m.fault(), 0);
    }

    private static void tick() {
        Check.sentence("6: which process did an instruction (or tried to: it must wait, or is trapped); NONE if none was READY");
        ShareMonitor m = new ShareMonitor();
        Check.same("no process", m.tick(), -1);
        Check.load(m, "1 recv", 0);
        Check.same("did one", m.tick(), 1);
        Check.same("must wait", m.tick(), 1);
        Check.same("none is READY", m.tick(), ShareMonitor.NONE);
        m.post(1, 1);
        Check.same("receives", m.tick(), 1);
        Check.same("is trapped", m.tick(), 1);
        Check.same("is ENDED", m.tick(), -1);
        Check.load(m, "1 sleep 0 exit", 0);
        m.run(2);
        Check.same("wakes and does one", m.tick(), 2);
        Check.same("exit", m.tick(), 2);
        Check.same("none", m.tick(), -1);
    }

    private static void run() {
        Check.sentence("7: n ticks: in how many of them some process was READY");
        ShareMonitor m = Check.with("1 recv 5 sleep");
        Check.same("none", m.run(0), 0);
        Check.same("clock", m.count(0), 0);
        Check.same("one", m.run(1), 1);
        Check.same("a try counts", m.run(10), 1);
        m.post(1, 1);
        Check.same("sleep is done", m.run(3), 3);
        Check.same("till it wakes", m.run(4), 0);
        Check.same("a trap counts", m.run(3), 1);
        Check.same("clock", m.count(0), 21);
        Check.same("none", m.run(5000), 0);
        Check.load(m, BUSY, 0);
        Check.same("all", m.run(5000), 5000);
        Check.same("clock", m.count(0), 10021);
        ShareMonitor one = Check.with(BUSY, "l: 3 sleep jump l");
        ShareMonitor other = Check.with(BUSY, "l: 3 sleep jump l");
        one.run(50);
        for (int i = 0; i < 50; i++) {
            other.tick();
        }
        Check.text("as so many ticks", Picture.of(one), Picture.of(other));
    }

    private static void runRefused() {
        Check.sentence("7: IllegalArgumentException: n is not 0 .. 5000");
        ShareMonitor m = Check.with(BUSY);
        none(m, IllegalArgumentException.class, new int[] {MIN, -1, 5001, MAX}, m::run);
    }

    private static void quantum() {
        Check.sentence("8: The QUANTUM from now on: what it was");
        ShareMonitor m = Check.with(BUSY, BUSY);
        Check.same("4 at first", m.quantum(1), 4);
        Check.same("the least", m.quantum(100), 1);
        Check.same("the most", m.quantum(2), 100);
        Check.same("two", m.quantum(2), 2);
        m.run(2);
        Check.same("then the other", m.tick(), 2);
    }

    private static void quantumRefused() {
        Check.sentence("8: IllegalArgumentException: it is not 1 .. 100");
        ShareMonitor m = Check.with(BUSY, BUSY);
        none(m, IllegalArgumentException.class, new int[] {MIN, -1, 0, 101, MAX}, m::quantum);
        Check.same("it was 4 still", m.quantum(4), 4);
    }

    private static void kill() {
        Check.sentence("9: A process ENDS with -1: whether it was alive. IndexOutOfBoundsException");
        ShareMonitor m = Check.with("7 exit", BUSY);
        Check.no("FREE", m.kill(12));
        Check.states(m, 12, FREE);
        m.run(2);
        Check.no("ENDED", m.kill(1));
        Check.same("its code stays", m.state(1, 1), 7);
        Check.yes("alive", m.kill(2));
        Check.same("its code", m.state(2, 1), -1);
        noIndex(m, NO_PROCESS, m::kill);
    }

    private static void reap() {
        Check.sentence("10: A process that is ENDED, and has no parent, is FREE: its code");
        for (int code : new int[] {0, -1, MIN, MAX}) {
            ShareMonitor m = Check.with(code + " exit");
            m.run(2);
            Check.same("its code", m.reap(1), code);
            Check.states(m, 1, FREE);
            Check.same("none ENDED", m.count(7), 0);
            Check.same("no program", m.count(8), 0);
        }
    }

    private static void reapRefused() {
        Check.sentence("10: IndexOutOfBoundsException; IllegalStateException: it is not so");
        ShareMonitor m = Check.with("spawn a spawn a 900 sleep a: 5 exit", "recv", BUSY, "readkey", "0 down");
        m.run(60);
        Check.same("ENDED, with a parent", m.state(6, 0), 7);
        none(m, IllegalStateException.class, new int[] {1, 2, 3, 4, 5, 6, 7, 8, 12}, m::reap);
        noIndex(m, NO_PROCESS, m::reap);
        m.kill(1);
        Check.same("FREE with its parent's end", m.state(6, 0), 0);
        Check.same("reap", m.reap(1), -1);
        none(m, IllegalStateException.class, new int[] {1, 6}, m::reap);
    }

    private static void key() {
        Check.sentence("11: A key comes behind its others; if it waits for one it becomes READY: whether there was room");
        ShareMonitor m = Check.with("readkey readkey", BUSY);
        m.tick();
        Check.yes("room", m.key(1, MIN));
        Check.row(m, 0, 2, 1);
        for (int i = 0; i < 7; i++) {
            Check.yes("room", m.key(1, i));
        }
        Check.row(m, 0, 2, 1);
        String before = Picture.of(m);
        Check.no("no room", m.key(1, MAX));
        Check.text("no room", Picture.of(m), before);
        m.run(6);
        Check.numbers(m, 1, MIN, 0);
        Check.same("keys", m.state(1, 8), 6);
        for (String waits : new String[] {"recv", "900 sleep", "0 down", "spawn a wait a: recv"}) {
            ShareMonitor other = Check.with(waits);
            other.run(20);
            Check.yes("room: " + waits, other.key(1, 1));
            Check.same("it waits for no key: " + waits, other.count(6), 0);
            Check.same("it has it", other.state(1, 8), 1);
        }
    }

    private static void keyRefused() {
        Check.sentence("11: IndexOutOfBoundsException; IllegalStateException: it is not alive");
        ShareMonitor m = Check.with("7 exit", BUSY);
        m.run(2);
        none(m, IllegalStateException.class, new int[] {1, 3, 12}, p -> m.key(p, 5));
        noIndex(m, NO_PROCESS, p -> m.key(p, 5));
    }

    private static void post() {
        Check.sentence("12: A message of process 0 (the caller) comes into its box, as send: whether there was room");
        ShareMonitor m = Check.with("recv recv", BUSY);
        m.tick();
        Check.yes("room", m.post(1, MIN));
        Check.row(m, 0, 2, 1);
        for (int i = 0; i < 7; i++) {
            Check.yes("room", m.post(1, i));
        }
        String before = Picture.of(m);
        Check.no("no room", m.post(1, MAX));
        Check.text("no room", Picture.of(m), before);
        Check.same("whose", m.message(1, 7, true), 0);
        m.run(6);
        Check.numbers(m, 1, MIN, 0, 0, 0);
        for (String waits : new String[] {"readkey", "900 sleep", "0 down", "spawn a wait a: recv"}) {
            ShareMonitor other = Check.with(waits);
            other.run(20);
            Check.yes("room: " + waits, other.post(1, 1));
            Check.same("it waits for no message: " + waits, other.count(6), 0);
            Check.same("it has it", other.state(1, 7), 1);
        }
    }

    private static void postRefused() {
        Check.sentence("12: IndexOutOfBoundsException; IllegalStateException: it is not alive");
        ShareMonitor m = Check.with("7 exit", BUSY);
        m.run(2);
        none(m, IllegalStateException.class, new int[] {1, 3, 12}, p -> m.post(p, 5));
        noIndex(m, NO_PROCESS, p -> m.post(p, 5));
    }

    private static void state() {
        Check.sentence("13: what = 0 what it is (0 .. 7), 1 its code (0 if it is not ENDED), 2 LEVEL, 3 PARENT, 4 the next ..");
        ShareMonitor m = new ShareMonitor();
        Check.load(m, "spawn a l: yield jump l a: 3 call b b: 4 alloc 9 recv", 2);
        m.run(3);
        m.post(2, 1);
        m.post(2, 1);
        m.key(2, 1);
        m.run(5);
        Check.states(m, 2, 1, 0, 2, 1, 7, 2, 1, 2, 1, 4, 4, 0, 0);
    }

    private static void stateOfFreeAndEnded() {
        Check.sentence("13: Of a FREE one all 0, of one that is ENDED 4 to 9, 11, 12 are 0");
        ShareMonitor m = new ShareMonitor();
        Check.load(m, "spawn a l: yield jump l a: 3 call b b: 4 alloc 9 recv", 2);
        m.run(3);
        m.post(2, 1);
        m.key(2, 1);
        m.run(6);
        m.kill(2);
        Check.states(m, 2, 7, -1, 2, 1, 0, 0, 0, 0, 0, 0, 5, 0, 0);
        m.kill(1);
        Check.states(m, 2, FREE);
        m.reap(1);
        Check.states(m, 1, FREE);
        for (String text : new String[] {"spawn a wait a: recv", "9 sleep", "7 down"}) {
            ShareMonitor waits = Check.with(text);
            waits.run(2);
            int done = waits.state(1, 10);
            Check.yes("it waits for something", waits.state(1, 11) > 0);
            waits.kill(1);
            Check.states(waits, 1, 7, -1, 0, 0, 0, 0, 0, 0, 0, 0, done, 0, 0);
        }
    }

    private static void stateDone() {
        Check.sentence("13: 10 instructions it did (one that waits or traps is none, but a down that waits, and sleep, are; nor exit)");
        done("1 2 drop", 3, 3);
        done("1 recv", 2, 1);
        done("1 readkey", 2, 1);
        done("spawn a wait a: recv", 2, 1);
        done("1 drop drop", 3, 2);
        done("1", 2, 1);
        done("1 0 /", 3, 2);
        done("0 down", 2, 2);
        done("9 sleep", 2, 2);
        done("0 sleep", 2, 2);
        done("0 level", 2, 2);
        done("yield", 1, 1);
        done("7 exit", 2, 1);
        ShareMonitor m = Check.with("recv");
        m.tick();
        m.post(1, 1);
        m.tick();
        Check.same("done anew, once", m.state(1, 10), 1);
    }

    private static void done(String text, int ticks, int want) {
        ShareMonitor m = Check.with(text);
        m.run(ticks);
        Check.same("done of " + text, m.state(1, 10), want);
    }

    private static void stateAwaited() {
        Check.sentence("13: 11 the child (3), the clock's number at which it wakes (5; 2147483647 at most), the semaphore (6); 0 else");
        awaited("spawn a wait a: recv", 2, 3, 2);
        awaited("1 sleep", 2, 5, 3);
        awaited("2147483645 sleep", 2, 5, MAX);
        awaited("2147483644 sleep", 2, 5, MAX - 1);
        awaited("2147483646 sleep", 2, 5, MAX);
        awaited("2147483647 sleep", 2, 5, MAX);
        awaited("7 down", 2, 6, 7);
        awaited("0 down", 2, 6, 0);
        awaited("recv", 1, 2, 0);
        awaited("readkey", 1, 4, 0);
        awaited("1", 1, 1, 0);
        awaited("drop", 1, 7, 0);
    }

    private static void awaited(String text, int ticks, int what, int want) {
        ShareMonitor m = Check.with(text);
        m.run(ticks);
        Check.same("state of " + text, m.state(1, 0), what);
        Check.same("awaited of " + text, m.state(1, 11), want);
    }

    private static void stateInARow() {
        Check.sentence("13: 12 how many it did in a row since it last came to the end of its row (0 when it just did)");
        int[] plain = {1, 2, 3, 0, 1};
        ShareMonitor m = Check.with("1 1 1 1 1");
        for (int want : plain) {
            m.tick();
            Check.same("in a row", m.state(1, 12), want);
        }
        ShareMonitor yields = Check.with("1 yield 1 0 level 1 0 sleep 1 1 sleep 1");
        int[] placed = {1, 0, 1, 2, 0, 1, 2, 0, 1, 2, 0, 1};
        for (int want : placed) {
            yields.tick();
            Check.same("in a row", yields.state(1, 12), want);
        }
        ShareMonitor waits = Check.with("1 2 recv 3");
        waits.run(3);
        waits.post(1, 9);
        Check.same("it just came to the end", waits.state(1, 12), 0);
        waits.tick();
        Check.same("recv", waits.state(1, 12), 1);
    }

    private static void stateRefused() {
        Check.sentence("13: IndexOutOfBoundsException");
        ShareMonitor m = Check.with(BUSY);
        noIndex(m, NO_PROCESS, p -> m.state(p, 0));
        noIndex(m, new int[] {MIN, -1, 13, 14, MAX}, what -> m.state(1, what));
        noIndex(m, new int[] {MIN, -1, 13, 14, MAX}, what -> m.state(12, what));
    }

    private static void stack() {
        Check.sentence("14: Number i of a process's stack, from 0, the lowest. IndexOutOfBoundsException");
        ShareMonitor m = Check.with("1 ".repeat(39) + "9 drop", "7 exit");
        m.quantum(100);
        noIndex(m, new int[] {MIN, -1, 0, 1, 40, MAX}, i -> m.stack(1, i));
        m.run(40);
        Check.same("the lowest", m.stack(1, 0), 1);
        Check.same("the top", m.stack(1, 39), 9);
        noIndex(m, new int[] {MIN, -1, 40, 41, MAX}, i -> m.stack(1, i));
        noIndex(m, NO_PROCESS, p -> m.stack(p, 0));
        m.tick();
        noIndex(m, new int[] {39, 40}, i -> m.stack(1, i));
        m.run(3);
        noIndex(m, new int[] {0}, i -> m.stack(1, i));
        noIndex(m, new int[] {2, 3, 12}, p -> m.stack(p, 0));
    }

    private static void message() {
        Check.sentence("15: Message i of a process's box, the first to come out is 0: its number, or whose it is. IndexOut..");
        ShareMonitor m = Check.with("4 2 send" + " l: yield jump l", "recv l: yield jump l", "7 exit");
        noIndex(m, new int[] {MIN, -1, 0, 8, MAX}, i -> m.message(2, i, false));
        m.post(2, 5);
        m.run(4);
        Check.same("the first", m.message(2, 0, false), 5);
        Check.same("whose", m.message(2, 0, true), 0);
        Check.same("the second", m.message(2, 1, false), 4);
        Check.same("whose", m.message(2, 1, true), 1);
        noIndex(m, new int[] {MIN, -1, 2, 8, MAX}, i -> m.message(2, i, true));
        noIndex(m, NO_PROCESS, p -> m.message(p, 0, true));
        m.run(2);
        Check.same("the first came out", m.message(2, 0, true), 1);
        noIndex(m, new int[] {1}, i -> m.message(2, i, false));
        m.run(10);
        noIndex(m, new int[] {1, 3, 12}, p -> m.message(p, 0, false));
    }

    private static void ready() {
        Check.sentence("16: Who is number i of a level's row, the first is 0. IndexOutOfBoundsException");
        ShareMonitor m = Check.with(BUSY, BUSY, BUSY);
        Check.row(m, 0, 1, 2, 3);
        Check.row(m, 1);
        Check.row(m, 2);
        noIndex(m, new int[] {MIN, -1, 3, 4, MAX}, level -> m.ready(level, 0));
        noIndex(m, new int[] {MIN, -1, 3, 11, 12, MAX}, i -> m.ready(0, i));
        noIndex(m, new int[] {MIN, -1, 0, 1, MAX}, i -> m.ready(2, i));
    }

    private static void cell() {
        Check.sentence("17: A memory cell. IndexOutOfBoundsException");
        ShareMonitor m = Check.with("1024 alloc 9 1023 ! 8 0 !");
        m.run(8);
        Check.same("the first", m.cell(0), 8);
        Check.same("the last", m.cell(1023), 9);
        noIndex(m, new int[] {MIN, -1, 1024, 1025, MAX}, m::cell);
    }

    private static void block() {
        Check.sentence("18: Of block k, by addresses: what = 0 its address, 1 how many cells, 2 who holds it (0: it is free)");
        ShareMonitor m = Check.with("5 alloc 3 alloc");
        for (int k = 0; k < 3; k++) {
            int last = k + 1;
            noIndex(m, new int[] {MIN, -1, last, 1023, 1024, MAX}, i -> m.block(i, 0));
            noIndex(m, new int[] {MIN, -1, 3, MAX}, what -> m.block(last - 1, what));
            m.run(2);
            if (k == 0) {
                Check.blocks(m, 0, 5, 1, 5, 1019, 0);
            } else if (k == 1) {
                Check.blocks(m, 0, 5, 1, 5, 3, 1, 8, 1016, 0);
            }
        }
        Check.blocks(m, 0, 1024, 0);
    }

    private static void semaphore() {
        Check.sentence("19: what = 0 its VALUE, 1 how many wait, 2 + i who is number i of them. IndexOutOfBoundsException");
        ShareMonitor m = Check.with("0 up 7 down", "7 down");
        m.run(6);
        Check.same("value", m.semaphore(0, 0), 1);
        Check.same("value", m.semaphore(7, 0), 0);
        Check.same("two wait", m.semaphore(7, 1), 2);
        Check.same("first", m.semaphore(7, 2), 1);
        Check.same("second", m.semaphore(7, 3), 2);
        noIndex(m, new int[] {MIN, -1, 4, 13, 14, MAX - 1, MAX}, what -> m.semaphore(7, what));
        noIndex(m, new int[] {MIN, -1, 2, 3, MAX}, what -> m.semaphore(0, what));
        noIndex(m, new int[] {MIN, -1, 8, 9, MAX}, k -> m.semaphore(k, 0));
    }

    private static void out() {
        Check.sentence("20: Number i of the console. IndexOutOfBoundsException");
        ShareMonitor m = Check.with("5 emit l: 6 emit jump l");
        noIndex(m, new int[] {MIN, -1, 0, 1, MAX}, m::out);
        m.run(2);
        Check.same("the first", m.out(0), 5);
        noIndex(m, new int[] {MIN, -1, 1, 2, MAX}, m::out);
        m.run(5000);
        m.run(2000);
        Check.same("the last", m.out(1999), 6);
        noIndex(m, new int[] {MIN, -1, 2000, 2001, MAX}, m::out);
    }

    private static void count() {
        Check.sentence("21: what = 0 the clock, 1 numbers on the console, 2 lost ones, 3 free cells, 4 blocks, 5 processes alive, ..");
        ShareMonitor m = Check.with("5 alloc emit recv", "spawn a 3 exit a: 900 sleep", BUSY);
        Check.feed(m, "1 2");
        m.run(40);
        int[] want = {40, 1, 0, 1019, 2, 3, 1, 1, 3, 12, 3};
        for (int what = 0; what < want.length; what++) {
            Check.same("count " + what, m.count(what), want[what]);
        }
    }

    private static void countRefused() {
        Check.sentence("21: IndexOutOfBoundsException");
        ShareMonitor m = Check.with(BUSY);
        noIndex(m, new int[] {MIN, -1, 11, 12, MAX}, m::count);
    }
}
