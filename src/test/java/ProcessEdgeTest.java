/** The edges of processes and turns: each sentence of the second part that names one, in its order. */
public final class ProcessEdgeTest {
    private static final String BUSY = "l: 1 drop jump l";
    private static final int[] FREE = {0, 0, 0, 0, 0, 0, 0, 0, 0, 0, 0, 0, 0};

    public static void main(String[] args) {
        allStates();
        alive();
        twelve();
        parents();
        boxes();
        keys();
        rows();
        becomesReady();
        wakesBySemaphoreAndSleep();
        newOne();
        newOneAfterOthers();
        clock();
        sleepers();
        sleepersOfSeveralLevels();
        twelveSleepers();
        leastLevel();
        quantumOfFour();
        quantumOfOne();
        quantumReadyStill();
        quantumOrMore();
        lesserLevel();
        keptInARow();
        mustWait();
        doneAnew();
        downAndSleepAreDone();
        Check.close("ProcessEdgeTest");
    }

    /** Processes 1 to 6 are in states 2, 4, 5, 6, 3 and 1; 7 is a child of 5, and waits. */
    private static ShareMonitor oneOfEach() {
        ShareMonitor m = Check.with("recv", "readkey", "900 sleep", "0 down", "spawn a wait a: recv", BUSY);
        m.run(60);
        return m;
    }

    private static void allStates() {
        Check.sentence("PROCESSES 1 .. 12 are FREE (0), READY (1), wait for a MESSAGE (2), an END (3), a KEY (4), ..");
        ShareMonitor m = oneOfEach();
        int[] want = {2, 4, 5, 6, 3, 1, 2, 0, 0, 0, 0, 0};
        for (int p = 1; p <= 12; p++) {
            Check.same("state of " + p, m.state(p, 0), want[p - 1]);
        }
        m.kill(7);
        Check.same("ENDED", m.state(7, 0), 7);
    }

    private static void alive() {
        Check.sentence("Those of 1 to 6 are ALIVE");
        for (int p = 1; p <= 8; p++) {
            ShareMonitor m = oneOfEach();
            Check.same("alive ones", m.count(5), 7);
            Check.same("kill " + p, m.kill(p) ? 1 : 0, p < 8 ? 1 : 0);
            Check.same("alive ones", m.count(5), p < 8 ? 6 : 7);
            Check.no("no more", m.kill(p));
        }
        ShareMonitor m = oneOfEach();
        m.kill(6);
        m.quantum(100);
        Check.load(m, "1 1 send 1 2 send 1 3 send 1 4 send 1 5 send 1 6 send 1 7 send 1 8 send 1 9 send 1 0 send l: yield jump l",
            0);
        m.run(30);
        Check.numbers(m, 8, 0, 0, 0, 0, 0, -1, 0, 0, -1, -1);
    }

    private static void twelve() {
        Check.sentence("PROCESSES 1 .. 12");
        ShareMonitor m = new ShareMonitor();
        for (int p = 1; p <= 12; p++) {
            Check.same("load", Check.load(m, BUSY, p % 3), p);
        }
        Check.row(m, 0, 3, 6, 9, 12);
        Check.row(m, 1, 1, 4, 7, 10);
        Check.row(m, 2, 2, 5, 8, 11);
        Check.same("alive", m.count(5), 12);
        Check.feed(m, "1");
        Check.refused("a thirteenth", m, UnsupportedOperationException.class, () -> m.load(0));
        ShareMonitor one = Check.with("l: spawn c emit jump l c: recv");
        one.run(60);
        Check.same("the eleventh child", one.out(10), 12);
        Check.same("none is FREE", one.out(11), -1);
        ShareMonitor row = Check.with(BUSY, BUSY, BUSY, BUSY, BUSY, BUSY, BUSY, BUSY, BUSY, BUSY, BUSY, BUSY);
        Check.row(row, 0, 1, 2, 3, 4, 5, 6, 7, 8, 9, 10, 11, 12);
        row.quantum(1);
        row.run(13);
        Check.row(row, 0, 2, 3, 4, 5, 6, 7, 8, 9, 10, 11, 12, 1);
    }

    private static void parents() {
        Check.sentence("a PARENT (a process, 0 without)");
        ShareMonitor m = Check.with("spawn a l: yield jump l a: spawn b recv b: recv");
        m.run(20);
        Check.same("loaded", m.state(1, 3), 0);
        Check.same("child", m.state(2, 3), 1);
        Check.same("grandchild", m.state(3, 3), 2);
    }

    private static void boxes() {
        Check.sentence("a BOX of messages (up to 8: a number, and whose)");
        ShareMonitor m = Check.with("l: yield jump l", "5 1 send emit 6 1 send emit l: yield jump l");
        for (int i = 0; i < 7; i++) {
            Check.yes("room", m.post(1, 10 + i));
        }
        m.run(40);
        Check.console(m, 0, -2);
        Check.same("messages", m.state(1, 7), 8);
        Check.same("the seventh's number", m.message(1, 6, false), 16);
        Check.same("whose it is", m.message(1, 6, true), 0);
        Check.same("the last one's number", m.message(1, 7, false), 5);
        Check.same("whose it is", m.message(1, 7, true), 2);
        Check.no("full", m.post(1, 1));
    }

    private static void keys() {
        Check.sentence("KEYS (up to 8)");
        ShareMonitor m = Check.with("l: yield jump l", "l: readkey emit jump l");
        for (int i = 0; i < 8; i++) {
            Check.yes("room", m.key(2, i));
            Check.same("keys", m.state(2, 8), i + 1);
        }
        Check.no("full", m.key(2, 8));
        Check.same("keys", m.state(2, 8), 8);
        Check.same("another's are its own", m.state(1, 8), 0);
        m.run(200);
        Check.console(m, 0, 1, 2, 3, 4, 5, 6, 7);
        Check.yes("room again", m.key(2, 9));
    }

    private static void rows() {
        Check.sentence("THE READY stand in rows, one for each level, first in, first out");
        ShareMonitor m = new ShareMonitor();
        int[] levels = {2, 0, 1, 0, 2};
        for (int level : levels) {
            Check.load(m, BUSY, level);
        }
        Check.row(m, 0, 2, 4);
        Check.row(m, 1, 3);
        Check.row(m, 2, 1, 5);
        m.kill(2);
        m.kill(5);
        Check.row(m, 0, 4);
        Check.row(m, 2, 1);
        m.kill(4);
        Check.row(m, 0);
    }

    private static void becomesReady() {
        Check.sentence("A process that becomes READY comes to the end of its level's row");
        ShareMonitor message = behindTwo("recv", 1);
        message.post(1, 5);
        Check.row(message, 1, 2, 3, 1);
        ShareMonitor key = behindTwo("readkey", 1);
        key.key(1, 5);
        Check.row(key, 1, 2, 3, 1);
        ShareMonitor end = behindTwo("spawn a wait a: recv", 3);
        Check.row(end, 1, 3, 4);
        end.kill(2);
        Check.row(end, 1, 3, 4, 1);
        ShareMonitor loaded = behindTwo("recv", 1);
        Check.load(loaded, BUSY, 1);
        Check.row(loaded, 1, 2, 3, 4);
        ShareMonitor spawned = behindTwo("yield spawn a a: recv", 1);
        Check.row(spawned, 1, 1, 2, 3);
        spawned.tick();
        Check.row(spawned, 1, 1, 2, 3, 4);
    }

    private static void wakesBySemaphoreAndSleep() {
        Check.sentence("(becomes READY: by a semaphore, by the clock)");
        ShareMonitor semaphore = behindTwo("3 down", 2);
        Check.row(semaphore, 1, 2, 3);
        Check.load(semaphore, "3 up 0 exit", 0);
        semaphore.run(2);
        Check.row(semaphore, 1, 2, 3, 1);
        ShareMonitor sleep = behindTwo("5 sleep", 2);
        sleep.quantum(100);
        sleep.run(4);
        Check.row(sleep, 1, 2, 3);
        Check.same("its time comes before the instruction", sleep.tick(), 2);
        Check.row(sleep, 1, 2, 3, 1);
    }

    /** The text's process of level 1 after so many ticks, then two busy ones of that level. */
    private static ShareMonitor behindTwo(String text, int ticks) {
        ShareMonitor m = new ShareMonitor();
        Check.load(m, text, 1);
        m.run(ticks);
        Check.load(m, BUSY, 1);
        Check.load(m, BUSY, 1);
        return m;
    }

    private static void newOne() {
        Check.sentence("A new one has the least number that is FREE; no instruction done, all empty");
        ShareMonitor m = used();
        m.kill(1);
        Check.same("reap", m.reap(1), -1);
        Check.same("the least", Check.load(m, "recv readkey", 1), 1);
        Check.states(m, 1, 1, 0, 1, 0, 0, 0, 0, 0, 0, 0, 0, 0, 0);
        Check.refused("no number", m, IndexOutOfBoundsException.class, () -> m.stack(1, 0));
        Check.refused("no message", m, IndexOutOfBoundsException.class, () -> m.message(1, 0, false));
        m.tick();
        Check.same("no message", m.state(1, 0), 2);
        m.post(1, 5);
        m.run(2);
        Check.same("no key", m.state(1, 0), 4);
        Check.numbers(m, 1, 5, 0);
        ShareMonitor returns = used();
        returns.kill(1);
        returns.reap(1);
        Check.load(returns, "return", 0);
        returns.tick();
        Check.same("no return", returns.state(1, 1), -6);
    }

    /** Process 1 has numbers, a return, messages, keys, a block, and did some in a row. */
    private static ShareMonitor used() {
        ShareMonitor m = Check.with("call a a: 7 3 alloc 9");
        m.quantum(100);
        m.run(4);
        m.post(1, 1);
        m.key(1, 2);
        Check.states(m, 1, 1, 0, 0, 0, 4, 2, 1, 1, 1, 3, 4, 0, 4);
        return m;
    }

    private static void newOneAfterOthers() {
        Check.sentence("(the least number that is FREE: after reap, wait, a parent's end)");
        ShareMonitor m = Check.with(BUSY, BUSY, BUSY, BUSY, BUSY);
        m.kill(4);
        m.kill(2);
        Check.same("ENDED is not FREE", Check.load(m, BUSY, 0), 6);
        m.reap(4);
        m.reap(2);
        Check.same("the least", Check.load(m, BUSY, 0), 2);
        Check.same("then", Check.load(m, BUSY, 0), 4);
        Check.same("then", Check.load(m, BUSY, 0), 7);
        ShareMonitor waits = Check.with("spawn a wait l: yield jump l a: 1 2 3 5 exit", BUSY);
        waits.run(40);
        Check.states(waits, 3, FREE);
        Check.same("the child's number", Check.load(waits, BUSY, 0), 3);
        ShareMonitor parent = Check.with("spawn a spawn b l: yield jump l a: 5 exit b: recv", BUSY);
        parent.run(40);
        Check.same("ENDED", parent.state(3, 0), 7);
        parent.kill(1);
        Check.states(parent, 3, FREE);
        Check.same("the parent is ENDED itself", Check.load(parent, BUSY, 0), 3);
    }

    private static void clock() {
        Check.sentence("A TICK: the clock is 1 more (0 at first)");
        ShareMonitor m = new ShareMonitor();
        Check.same("at first", m.count(0), 0);
        m.tick();
        Check.same("with none READY", m.count(0), 1);
        Check.load(m, "drop", 0);
        Check.same("load is no tick", m.count(0), 1);
        m.tick();
        Check.same("with a trap", m.count(0), 2);
        m.run(0);
        Check.same("no tick", m.count(0), 2);
        m.run(5000);
        Check.same("many", m.count(0), 5002);
    }

    private static void sleepers() {
        Check.sentence("those that SLEEP and whose time has come become READY (by time, then by number)");
        // They fall asleep in the order 2, 3, 1, at clocks 3, 5, 7, and all wake at 8.
        ShareMonitor m = Check.with("yield 1 sleep 11", "5 sleep 22", "3 sleep 33");
        m.quantum(100);
        m.run(7);
        Check.same("READY", m.count(6), 0);
        Check.same("wakes", m.state(1, 11), 8);
        Check.same("wakes", m.state(2, 11), 8);
        Check.same("wakes", m.state(3, 11), 8);
        Check.same("the least number", m.tick(), 1);
        Check.row(m, 0, 1, 2, 3);
        // Here 2 wakes at 6 and 1 at 7, while a lesser level works.
        ShareMonitor times = new ShareMonitor();
        Check.load(times, "5 sleep 1", 1);
        Check.load(times, "2 sleep 1", 1);
        times.run(4);
        Check.load(times, BUSY, 0);
        times.tick();
        Check.row(times, 1);
        times.tick();
        Check.row(times, 1, 2);
        times.tick();
        Check.row(times, 1, 2, 1);
    }

    private static void sleepersOfSeveralLevels() {
        Check.sentence("(each sleeper comes to its own level's row)");
        ShareMonitor m = new ShareMonitor();
        Check.load(m, "1 sleep 1", 2);
        Check.load(m, "3 sleep 1", 1);
        Check.load(m, "5 sleep 1", 0);
        m.run(6);
        Check.same("wakes", m.state(1, 11), 7);
        Check.same("wakes", m.state(2, 11), 7);
        Check.same("wakes", m.state(3, 11), 7);
        Check.same("the least level", m.tick(), 3);
        Check.row(m, 0, 3);
        Check.row(m, 1, 2);
        Check.row(m, 2, 1);
    }

    private static void twelveSleepers() {
        Check.sentence("(all twelve sleep, each till its own time)");
        ShareMonitor m = new ShareMonitor();
        for (int p = 1; p <= 12; p++) {
            // Process p falls asleep at clock 2 * p, and wakes at 100 - 3 * p: 12 first, 1 last.
            Check.load(m, (100 - 5 * p) + " sleep recv", 0);
        }
        m.quantum(2);
        m.run(24);
        Check.same("none is READY", m.count(6), 0);
        for (int p = 12; p >= 1; p--) {
            int time = 100 - 3 * p;
            Check.same("wakes", m.state(p, 11), time);
            Check.same("none before", m.run(time - 1 - m.count(0)), 0);
            Check.same("at its time", m.tick(), p);
        }
    }

    private static void leastLevel() {
        Check.sentence("Then the first one of the row with the least level that has some does one instruction");
        ShareMonitor m = new ShareMonitor();
        Check.load(m, BUSY, 2);
        Check.same("level 2 alone", m.tick(), 1);
        Check.load(m, BUSY, 1);
        Check.same("level 1", m.tick(), 2);
        Check.load(m, "7", 0);
        Check.same("level 0", m.tick(), 3);
        Check.same("it is trapped", m.tick(), 3);
        Check.same("level 1", m.tick(), 2);
        m.kill(2);
        Check.same("level 2", m.tick(), 1);
        m.kill(1);
        Check.same("none", m.tick(), ShareMonitor.NONE);
    }

    private static void quantumOfFour() {
        Check.sentence("has done as many in a row as the QUANTUM (4 at first)");
        ShareMonitor m = Check.with(BUSY, BUSY);
        for (int i = 1; i <= 3; i++) {
            m.tick();
            Check.same("in a row", m.state(1, 12), i);
            Check.row(m, 0, 1, 2);
        }
        m.tick();
        Check.same("in a row", m.state(1, 12), 0);
        Check.row(m, 0, 2, 1);
        ShareMonitor alone = Check.with(BUSY);
        int[] inARow = {1, 2, 3, 0, 1};
        for (int want : inARow) {
            alone.tick();
            Check.same("alone in a row", alone.state(1, 12), want);
            Check.row(alone, 0, 1);
        }
    }

    private static void quantumOfOne() {
        Check.sentence("(a QUANTUM of 1, and of 100)");
        ShareMonitor m = Check.with(BUSY, BUSY, BUSY);
        m.quantum(1);
        for (int i = 0; i < 7; i++) {
            Check.same("one each", m.tick(), 1 + i % 3);
        }
        ShareMonitor most = Check.with(BUSY, BUSY);
        most.quantum(100);
        most.run(99);
        Check.row(most, 0, 1, 2);
        Check.same("in a row", most.state(1, 12), 99);
        most.tick();
        Check.row(most, 0, 2, 1);
        most.run(100);
        Check.row(most, 0, 1, 2);
    }

    private static void quantumReadyStill() {
        Check.sentence("If it is READY still");
        for (String text : new String[] {"recv", "readkey", "drop", "return"}) {
            Check.row(atTheQuantum(text, 1), 0, 2);
        }
        for (String text : new String[] {"8 exit", "3 down", "3 sleep", "8 up"}) {
            Check.row(atTheQuantum(text, 2), 0, 2);
        }
        Check.row(atTheQuantum("yield", 1), 0, 2, 1);
        for (String text : new String[] {"0 sleep", "-1 sleep", "0 level", "7 up"}) {
            ShareMonitor m = atTheQuantum(text, 2);
            Check.row(m, 0, 2, 1);
            Check.same("just came to the end", m.state(1, 12), 0);
        }
        ShareMonitor level = atTheQuantum("1 level", 2);
        Check.row(level, 0, 2);
        Check.row(level, 1, 1);
    }

    /** The text's process has done, or tried, as many as the quantum; another one stands behind it. */
    private static ShareMonitor atTheQuantum(String text, int ticks) {
        ShareMonitor m = Check.with(text, BUSY);
        m.quantum(ticks);
        m.run(ticks);
        return m;
    }

    private static void quantumOrMore() {
        Check.sentence("or more, since it last came to the end of its row, it comes to the end of it");
        ShareMonitor less = Check.with(BUSY, BUSY);
        less.quantum(10);
        less.run(7);
        less.quantum(3);
        Check.row(less, 0, 1, 2);
        Check.same("done in a row", less.state(1, 12), 7);
        Check.same("one more", less.tick(), 1);
        Check.row(less, 0, 2, 1);
        ShareMonitor more = Check.with(BUSY, BUSY);
        more.run(3);
        more.quantum(6);
        more.run(2);
        Check.row(more, 0, 1, 2);
        Check.same("done in a row", more.state(1, 12), 5);
        more.tick();
        Check.row(more, 0, 2, 1);
        ShareMonitor same = Check.with(BUSY, BUSY);
        same.run(3);
        same.quantum(3);
        Check.row(same, 0, 1, 2);
        same.tick();
        Check.row(same, 0, 2, 1);
    }

    private static void lesserLevel() {
        Check.sentence("Another one that comes to a row with a lesser level is first from the next tick on");
        ShareMonitor sent = lower("recv 1", 1, "5 1 send");
        sent.run(2);
        Check.same("send", sent.tick(), 2);
        Check.same("then it", sent.tick(), 1);
        ShareMonitor up = lower("4 down 1", 2, "4 up 1");
        up.tick();
        Check.same("up", up.tick(), 2);
        Check.same("then it", up.tick(), 1);
        ShareMonitor sleep = lower("3 sleep 1", 2, BUSY);
        Check.same("clock 3", sleep.tick(), 2);
        Check.same("clock 4", sleep.tick(), 2);
        Check.same("clock 5: it wakes", sleep.tick(), 1);
        ShareMonitor ended = lower("spawn a wait a: 1 level 5 exit", 4, BUSY);
        Check.row(ended, 1, 2, 3);
        ended.tick();
        Check.same("exit", ended.tick(), 2);
        Check.same("then who waits for it", ended.tick(), 1);
        ShareMonitor raised = lower("recv", 1, "0 level 7");
        raised.run(2);
        Check.row(raised, 0, 2);
        raised.post(1, 1);
        Check.row(raised, 0, 2, 1);
        ShareMonitor posted = lower("recv", 1, BUSY);
        Check.same("the greater level", posted.tick(), 2);
        posted.post(1, 1);
        Check.same("a message", posted.tick(), 1);
        ShareMonitor keyed = lower("readkey", 1, BUSY);
        keyed.key(1, 1);
        Check.same("a key", keyed.tick(), 1);
    }

    /** A process of level 0 after so many ticks, then one of level 1. */
    private static ShareMonitor lower(String first, int ticks, String second) {
        ShareMonitor m = new ShareMonitor();
        Check.load(m, first, 0);
        m.run(ticks);
        Check.load(m, second, 1);
        return m;
    }

    private static void keptInARow() {
        Check.sentence("what was done in a row is kept");
        ShareMonitor m = lower("l: recv drop drop jump l", 1, BUSY);
        Check.load(m, BUSY, 1);
        m.run(3);
        Check.same("in a row", m.state(2, 12), 3);
        m.post(1, 7);
        m.run(5);
        Check.same("the lesser level waits again", m.state(1, 0), 2);
        Check.same("kept", m.state(2, 12), 3);
        Check.row(m, 1, 2, 3);
        Check.same("the fourth", m.tick(), 2);
        Check.row(m, 1, 3, 2);
    }

    private static void mustWait() {
        Check.sentence("A process that must wait leaves the row; its instruction is not done (the stack is as before it)");
        ShareMonitor message = Check.with("4 5 recv", BUSY);
        message.run(3);
        Check.states(message, 1, 2, 0, 0, 0, 2, 2, 0, 0, 0, 0, 2, 0, 0);
        Check.numbers(message, 1, 4, 5);
        Check.row(message, 0, 2);
        ShareMonitor key = Check.with("4 5 readkey", BUSY);
        key.run(3);
        Check.states(key, 1, 4, 0, 0, 0, 2, 2, 0, 0, 0, 0, 2, 0, 0);
        Check.numbers(key, 1, 4, 5);
        Check.row(key, 0, 2);
        ShareMonitor end = Check.with("4 spawn a wait a: l: jump l");
        end.run(3);
        Check.states(end, 1, 3, 0, 0, 0, 2, 2, 0, 0, 0, 0, 2, 2, 0);
        Check.numbers(end, 1, 4, 2);
        Check.row(end, 0, 2);
    }

    private static void doneAnew() {
        Check.sentence("and is done anew when it is READY and first again");
        ShareMonitor m = Check.with("4 recv", BUSY);
        m.run(2);
        m.post(1, 70);
        m.post(1, 71);
        Check.states(m, 1, 1, 0, 0, 0, 1, 1, 0, 2, 0, 0, 1, 0, 0);
        Check.row(m, 0, 2, 1);
        m.run(4);
        Check.numbers(m, 1, 4);
        Check.same("first again", m.tick(), 1);
        Check.numbers(m, 1, 4, 70, 0);
        Check.states(m, 1, 1, 0, 0, 0, 2, 3, 0, 1, 0, 0, 2, 0, 1);
        ShareMonitor key = Check.with("4 readkey");
        key.run(2);
        key.key(1, -9);
        key.tick();
        Check.numbers(key, 1, 4, -9);
        ShareMonitor end = Check.with("4 spawn a wait a: l: jump l");
        end.run(3);
        end.kill(2);
        Check.states(end, 2, 7, -1, 0, 1, 0, 0, 0, 0, 0, 0, 0, 0, 0);
        end.tick();
        Check.numbers(end, 1, 4, -1, 1);
        Check.states(end, 2, FREE);
    }

    private static void downAndSleepAreDone() {
        Check.sentence("but down and sleep: see there");
        ShareMonitor down = Check.with("4 6 down 9");
        down.run(3);
        Check.states(down, 1, 6, 0, 0, 0, 3, 1, 0, 0, 0, 0, 3, 6, 0);
        ShareMonitor sleep = Check.with("4 6 sleep 9");
        sleep.run(3);
        Check.states(sleep, 1, 5, 0, 0, 0, 3, 1, 0, 0, 0, 0, 3, 9, 0);
        sleep.run(6);
        Check.numbers(sleep, 1, 4, 9);
    }
}
