/** The edges of an end: TO END, and each trap with its order, sentence by sentence. */
public final class EndEdgeTest {
    private static final String BUSY = "l: 1 drop jump l";
    private static final String ONES = "1 ".repeat(40);
    private static final int[] FREE = {0, 0, 0, 0, 0, 0, 0, 0, 0, 0, 0, 0, 0};

    public static void main(String[] args) {
        blocksAreFree();
        boxAndKeysAreEmpty();
        leavesEachRow();
        childrenAlive();
        childrenEnded();
        endedWithItsCode();
        parentWaits();
        programIsGone();
        tooFew();
        fortyNumbers();
        fortyStay();
        divisors();
        noBlock();
        returns();
        behindTheLast();
        noSemaphore();
        noLevel();
        order();
        nothingElse();
        killed();
        Check.close("EndEdgeTest");
    }

    private static void blocksAreFree() {
        Check.sentence("TO END with a code: its blocks are free");
        ShareMonitor m = Check.with("10 alloc 10 alloc 10 alloc recv", "20 alloc 10 2 give recv", "5 alloc recv");
        m.quantum(100);
        m.run(30);
        Check.blocks(m, 0, 10, 1, 10, 10, 1, 20, 10, 1, 30, 20, 2, 50, 5, 3, 55, 969, 0);
        m.kill(1);
        Check.blocks(m, 0, 30, 0, 30, 20, 2, 50, 5, 3, 55, 969, 0);
        Check.same("free cells", m.count(3), 999);
        m.kill(3);
        Check.blocks(m, 0, 30, 0, 30, 20, 2, 50, 974, 0);
        m.kill(2);
        Check.blocks(m, 0, 1024, 0);
        ShareMonitor given = Check.with("10 alloc 2 give l: yield jump l", "l: yield jump l");
        given.run(20);
        given.kill(1);
        Check.blocks(given, 0, 10, 2, 10, 1014, 0);
        given.kill(2);
        Check.blocks(given, 0, 1024, 0);
        ShareMonitor all = Check.with("1024 alloc 7 1023 ! drop");
        all.run(6);
        Check.blocks(all, 0, 1024, 1);
        all.tick();
        Check.blocks(all, 0, 1024, 0);
        Check.same("a free cell keeps what it had", all.cell(1023), 7);
    }

    private static void boxAndKeysAreEmpty() {
        Check.sentence("box and keys empty");
        ShareMonitor m = Check.with(BUSY);
        for (int i = 0; i < 8; i++) {
            m.post(1, i);
            m.key(1, i);
        }
        m.kill(1);
        Check.same("messages", m.state(1, 7), 0);
        Check.same("keys", m.state(1, 8), 0);
        Check.refused("the box", m, IndexOutOfBoundsException.class, () -> m.message(1, 0, true));
    }

    private static void leavesEachRow() {
        Check.sentence("it leaves each row");
        ShareMonitor m = Check.with(BUSY, BUSY, BUSY);
        m.kill(2);
        Check.row(m, 0, 1, 3);
        m.kill(3);
        Check.row(m, 0, 1);
        m.kill(1);
        Check.row(m, 0);
        ShareMonitor waits = Check.with("7 down", "7 down", "7 down", "7 up 7 up 7 up");
        waits.run(6);
        waits.kill(2);
        Check.same("how many wait", waits.semaphore(7, 1), 2);
        Check.same("first", waits.semaphore(7, 2), 1);
        Check.same("second", waits.semaphore(7, 3), 3);
        waits.run(20);
        Check.same("the third up finds none", waits.semaphore(7, 0), 1);
        Check.same("it stays ENDED", waits.state(2, 0), 7);
        for (int level = 0; level <= 2; level++) {
            ShareMonitor each = new ShareMonitor();
            Check.load(each, BUSY, level);
            each.kill(1);
            Check.row(each, level);
        }
        for (int k = 0; k <= 7; k++) {
            ShareMonitor each = Check.with(k + " down");
            each.run(2);
            Check.same("it waits", each.semaphore(k, 1), 1);
            each.kill(1);
            Check.same("none waits", each.semaphore(k, 1), 0);
        }
        ShareMonitor sleeper = Check.with("5 sleep 1");
        sleeper.run(2);
        sleeper.kill(1);
        Check.same("its time comes", sleeper.run(20), 0);
        Check.same("it stays ENDED", sleeper.state(1, 0), 7);
    }

    private static void childrenAlive() {
        Check.sentence("its children (those with that parent) that are alive have no parent any more");
        ShareMonitor m = Check.with("spawn a spawn a l: yield jump l a: spawn b recv b: recv", BUSY);
        m.run(80);
        Check.same("child", m.state(3, 3), 1);
        Check.same("child", m.state(4, 3), 1);
        Check.same("grandchild", m.state(5, 3), 3);
        Check.same("grandchild", m.state(6, 3), 4);
        m.kill(1);
        Check.same("child", m.state(3, 3), 0);
        Check.same("it waits still", m.state(3, 0), 2);
        Check.same("child", m.state(4, 3), 0);
        Check.same("not its child", m.state(5, 3), 3);
        m.kill(3);
        Check.same("without parent it is ENDED", m.state(3, 0), 7);
        Check.same("grandchild", m.state(5, 3), 0);
        Check.same("another's", m.state(6, 3), 4);
        m.reap(1);
        Check.same("a new process 1", Check.load(m, BUSY, 0), 1);
        Check.same("is nobody's parent", m.state(4, 3), 0);
        m.kill(1);
        Check.same("and its end is nothing to them", m.state(4, 0), 2);
        ShareMonitor outermost = outermostChildren("recv");
        outermost.kill(2);
        Check.same("without parent", outermost.state(1, 3), 0);
        Check.same("without parent", outermost.state(12, 3), 0);
        Check.same("alive", outermost.count(5), 11);
    }

    /** Processes 1 and 12 are children of process 2; they wait, or are ENDED with 5. */
    private static ShareMonitor outermostChildren(String child) {
        ShareMonitor m = Check.with(BUSY, "yield" + " spawn a".repeat(2) + " l: yield jump l a: " + child, "recv", "recv",
            "recv", "recv", "recv", "recv", "recv", "recv", "recv");
        m.kill(1);
        m.reap(1);
        m.run(60);
        Check.same("parent of 1", m.state(1, 3), 2);
        Check.same("parent of 12", m.state(12, 3), 2);
        return m;
    }

    private static void childrenEnded() {
        Check.sentence("those that are ENDED are FREE");
        ShareMonitor m = Check.with("spawn a spawn b spawn a l: yield jump l a: 5 exit b: spawn a recv");
        m.run(80);
        int[] ended = {1, 7, 2, 7, 7};
        for (int p = 1; p <= 5; p++) {
            Check.same("state of " + p, m.state(p, 0), ended[p - 1]);
        }
        m.kill(1);
        Check.states(m, 2, FREE);
        Check.states(m, 4, FREE);
        Check.same("alive", m.state(3, 0), 2);
        Check.same("a grandchild stays", m.state(5, 0), 7);
        m.kill(3);
        Check.states(m, 5, FREE);
        ShareMonitor outermost = outermostChildren("5 exit");
        Check.same("ENDED", outermost.count(7), 2);
        outermost.kill(2);
        Check.states(outermost, 1, FREE);
        Check.states(outermost, 12, FREE);
    }

    private static void endedWithItsCode() {
        Check.sentence("it is ENDED, with its code");
        ShareMonitor m = new ShareMonitor();
        Check.load(m, "spawn a l: yield jump l a: 1 2 3 -2147483648 exit", 2);
        m.run(40);
        Check.states(m, 2, 7, Integer.MIN_VALUE, 2, 1, 0, 0, 0, 0, 0, 0, 4, 0, 0);
        for (int code : new int[] {0, 1, -1, -7, Integer.MAX_VALUE}) {
            Check.ends(code + " exit", code, 1);
        }
    }

    private static void parentWaits() {
        Check.sentence("If its parent waits for its end, that becomes READY");
        ShareMonitor m = Check.with("spawn a spawn a drop wait l: yield jump l a: recv");
        m.run(20);
        Check.same("waits for the first", m.state(1, 11), 2);
        m.kill(3);
        Check.same("another child's end", m.state(1, 0), 3);
        m.kill(2);
        Check.same("the child's end", m.state(1, 0), 1);
        Check.same("it waits for nothing", m.state(1, 11), 0);
        Check.row(m, 0, 1);
        ShareMonitor other = Check.with("spawn a recv a: 5 exit");
        other.run(20);
        Check.same("ENDED", other.state(2, 0), 7);
        Check.same("it waits for a message, not an end", other.state(1, 0), 2);
        ShareMonitor up = Check.with("spawn a drop 2 down a: 5 exit");
        up.run(20);
        Check.same("it waits for semaphore 2, not for process 2", up.state(1, 0), 6);
        ShareMonitor slept = Check.with("spawn a spawn a drop drop 8 sleep a: 9 sleep");
        slept.quantum(100);
        slept.run(6);
        slept.kill(2);
        Check.same("it sleeps", slept.state(1, 0), 5);
        ShareMonitor trapped = Check.with("spawn a wait l: yield jump l a: drop");
        trapped.run(20);
        Check.numbers(trapped, 1, -2, 1);
    }

    private static void programIsGone() {
        Check.sentence("A program that no process that is alive or ENDED has is gone");
        ShareMonitor m = Check.with("1 2 3 4", "1 2", "1");
        Check.same("programs", m.count(8), 3);
        Check.same("instructions", m.count(9), 7);
        m.kill(1);
        Check.same("ENDED has it", m.count(8), 3);
        m.reap(1);
        Check.same("gone", m.count(8), 2);
        Check.same("instructions", m.count(9), 3);
        ShareMonitor child = Check.with("spawn a 0 exit a: recv");
        child.run(20);
        child.reap(1);
        Check.same("the child has it", child.count(8), 1);
        child.kill(2);
        Check.same("ENDED has it", child.count(9), 4);
        child.reap(2);
        Check.same("gone", child.count(8), 0);
        Check.same("gone", child.count(9), 0);
        ShareMonitor fault = Check.with("1 2");
        Check.load(fault, "1 2 3 foo", 0);
        Check.same("a text with a fault is none", fault.count(8), 1);
        Check.same("nor has it instructions", fault.count(9), 2);
        ShareMonitor twelve = Check.with("1", "1", "1", "1", "1", "1", "1", "1", "1", "1", "1", "1");
        Check.same("the same text is another program", twelve.count(8), 12);
    }

    private static void tooFew() {
        Check.sentence("-2 the stack has too few numbers");
        for (String word : ("dup drop not @ alloc free wait kill level sleep down up emit exit").split(" ")) {
            Check.ends(word, -2, 0);
        }
        Check.ends("a: zero a", -2, 0);
        for (String word : ("swap over + - * / % and or xor left right = < > ! give send").split(" ")) {
            Check.ends(word, -2, 0);
            Check.ends("0 " + word, -2, 1);
        }
        Check.ends("rot", -2, 0);
        Check.ends("1 rot", -2, 1);
        Check.ends("1 2 rot", -2, 2);
        for (String text : new String[] {"a: jump a", "a: call a", "self", "yield", "a: spawn a", "recv", "readkey", "5"}) {
            ShareMonitor m = Check.with(text);
            m.tick();
            Check.yes("needs none: " + text, m.count(7) == 0);
        }
    }

    private static void fortyNumbers() {
        Check.sentence("-3 it would have more than 40");
        ShareMonitor m = Check.with(ONES + "7");
        m.run(40);
        Check.same("40 numbers", m.state(1, 5), 40);
        Check.same("the fortieth", m.stack(1, 39), 1);
        m.tick();
        Check.same("the 41st", m.state(1, 1), -3);
        Check.ends(ONES + "dup", -3, 40);
        Check.ends(ONES + "over", -3, 40);
        Check.ends(ONES + "self", -3, 40);
        Check.ends(ONES + "a: spawn a", -3, 40);
        Check.ends(ONES + "wait", -3, 40);
        for (String word : new String[] {"7", "dup", "over", "self", "wait"}) {
            ShareMonitor full = Check.with("1 ".repeat(39) + word);
            full.run(40);
            Check.same("40 by " + word, full.state(1, 5), 40);
        }
        for (int depth = 38; depth <= 40; depth++) {
            ShareMonitor recv = Check.with("1 ".repeat(depth) + "recv");
            recv.post(1, 5);
            recv.run(depth + 1);
            Check.same("recv with " + depth, recv.state(1, 1), depth == 38 ? 0 : -3);
            ShareMonitor key = Check.with("1 ".repeat(depth) + "readkey");
            key.key(1, 5);
            key.run(depth + 1);
            Check.same("readkey with " + depth, key.state(1, 1), depth == 40 ? -3 : 0);
        }
    }

    private static void fortyStay() {
        Check.sentence("(with 40 numbers, an instruction by which they are no more is done)");
        for (String word : new String[] {"drop", "swap", "rot", "+", "-", "*", "/", "%", "and", "or", "xor", "not", "left",
            "right", "=", "<", ">", "a: zero a", "alloc", "free", "give", "send", "kill", "level", "yield", "sleep", "down",
            "up", "emit", "a: jump a", "a: call a"}) {
            forty(ONES + word, 41);
        }
        forty("1 alloc drop " + "0 ".repeat(40) + "@", 44);
        forty("1 alloc drop " + "0 ".repeat(40) + "!", 44);
        forty(ONES + "call a 1 a: return", 42);
        forty("1 ".repeat(39) + "a: spawn a", 40);
        Check.ends(ONES + "exit", 1, 40);
    }

    private static void forty(String text, int ticks) {
        ShareMonitor m = Check.with(text);
        m.run(ticks);
        Check.same("none is ENDED: " + text, m.count(7), 0);
        Check.same("done: " + text, m.state(1, 10), ticks);
    }

    private static void divisors() {
        Check.sentence("-4 / or % by 0");
        for (int a : new int[] {0, 1, -1, Integer.MIN_VALUE, Integer.MAX_VALUE}) {
            Check.ends(a + " 0 /", -4, 2);
            Check.ends(a + " 0 %", -4, 2);
        }
        Check.leaves("0 1 /", 0);
        Check.leaves("0 -1 %", 0);
    }

    private static void noBlock() {
        Check.sentence("-5 @ or ! where it holds no block");
        for (int address : new int[] {0, 1023, -1, 1024, Integer.MIN_VALUE, Integer.MAX_VALUE}) {
            Check.ends(address + " @", -5, 1);
            Check.ends("7 " + address + " !", -5, 2);
        }
        for (int address : new int[] {-1, 5, 1023, 1024}) {
            Check.ends("5 alloc drop " + address + " @", -5, 4);
            Check.ends("5 alloc drop 7 " + address + " !", -5, 5);
        }
        Check.leaves("1024 alloc @ 7 1023 ! 1023 @ 7 0 ! 0 @", 0, 7, 7);
        Check.ends("5 alloc dup free drop @", -5, 5);
        ShareMonitor m = Check.with("5 alloc l: yield jump l", "2 @");
        m.run(20);
        Check.same("another's block", m.state(2, 1), -5);
    }

    private static void returns() {
        Check.sentence("-6 RETURNS: none, or more than 20");
        Check.ends("return", -6, 0);
        Check.ends("a: call a", -6, 20);
        ShareMonitor m = Check.with("a: call a");
        m.run(20);
        Check.same("20", m.state(1, 6), 20);
        Check.same("alive", m.state(1, 0), 1);
        m.tick();
        Check.same("the 21st", m.state(1, 1), -6);
        // Twenty open at once, all of them returned from: 0 .. 19 are counted up, then down.
        ShareMonitor deep = Check.with("20 call a emit 0 exit a: 1 - dup zero b call a b: 1 + return");
        deep.run(400);
        Check.console(deep, 20);
        Check.same("done", deep.state(1, 1), 0);
        ShareMonitor deeper = Check.with("21 call a emit 0 exit a: 1 - dup zero b call a b: 1 + return");
        deeper.run(400);
        Check.same("one more", deeper.state(1, 1), -6);
        Check.ends("call a return a: return", -6, 2);
    }

    private static void behindTheLast() {
        Check.sentence("-7 there is no such instruction (behind the last one)");
        Check.ends("1", -7, 1);
        Check.ends("jump z z:", -7, 1);
        Check.ends("0 zero z 5 z:", -7, 2);
        Check.ends("1 zero z z:", -7, 2);
        Check.ends("call z z:", -7, 1);
        Check.ends("jump b a: return b: call a", -7, 3);
        Check.ends("yield", -7, 1);
        StringBuilder most = new StringBuilder();
        for (int i = 0; i < 128; i++) {
            most.append("1 drop ");
        }
        Check.ends(most.toString(), -7, 256);
        ShareMonitor m = Check.with("spawn z l: yield jump l z:");
        m.run(20);
        Check.same("a child behind the last one", m.state(2, 1), -7);
        // A longer program that is gone, or a text with a fault, leaves no instruction to a shorter one.
        ShareMonitor shorter = Check.with("7 ".repeat(256));
        shorter.kill(1);
        shorter.reap(1);
        Check.load(shorter, "1", 0);
        shorter.run(2);
        Check.same("behind a shorter one", shorter.state(1, 1), -7);
        ShareMonitor faulty = new ShareMonitor();
        Check.same("a fault", Check.load(faulty, "1 2 3 4 foo", 0), -9);
        Check.load(faulty, "1", 0);
        faulty.run(2);
        Check.same("behind one that came after a fault", faulty.state(1, 1), -7);
    }

    private static void noSemaphore() {
        Check.sentence("-8 no such semaphore");
        for (int k : new int[] {-1, 8, Integer.MIN_VALUE, Integer.MAX_VALUE}) {
            Check.ends(k + " down", -8, 1);
            Check.ends(k + " up", -8, 1);
        }
        for (int k : new int[] {0, 7}) {
            Check.leaves(k + " up " + k + " down");
        }
    }

    private static void noLevel() {
        Check.sentence("-9 no level 0 .. 2");
        for (int level : new int[] {-1, 3, Integer.MIN_VALUE, Integer.MAX_VALUE}) {
            Check.ends(level + " level", -9, 1);
        }
        for (int level = 0; level <= 2; level++) {
            Check.leaves(level + " level");
        }
    }

    private static void order() {
        Check.sentence("(The first of these that is so, looked at in this order: -7, -2, then what the instruction does, -3 ..");
        Check.ends("/", -2, 0);
        Check.ends("0 /", -2, 1);
        Check.ends("0 !", -2, 1);
        Check.ends("down", -2, 0);
        Check.ends("level", -2, 0);
        Check.ends(ONES + "0 /", -3, 40);
        Check.ends(ONES, -7, 40);
        ShareMonitor recv = Check.with(ONES + "recv");
        recv.run(41);
        Check.same("it must wait: nothing is put", recv.state(1, 0), 2);
        recv.post(1, 1);
        recv.tick();
        Check.same("then it would put", recv.state(1, 1), -3);
        ShareMonitor key = Check.with(ONES + "readkey");
        key.run(41);
        Check.same("it must wait: nothing is put", key.state(1, 0), 4);
        ShareMonitor end = Check.with("spawn a " + "1 ".repeat(38) + "2 wait a: recv");
        end.run(60);
        Check.same("it must wait: nothing is put", end.state(1, 0), 3);
        Check.same("with 40 numbers", end.state(1, 5), 40);
        end.kill(2);
        end.tick();
        Check.same("then it would put", end.state(1, 1), -3);
    }

    private static void nothingElse() {
        Check.sentence("one by which the stack would have too many does nothing else");
        ShareMonitor spawn = Check.with(ONES + "a: spawn a");
        spawn.run(41);
        Check.same("trapped", spawn.state(1, 1), -3);
        Check.states(spawn, 2, FREE);
        Check.same("done", spawn.state(1, 10), 40);
        Check.same("alive", spawn.count(5), 0);
        ShareMonitor none = Check.with("1 l: spawn a jump l a: recv");
        none.run(500);
        Check.same("none is FREE, and -1 has no room at last", none.state(1, 1), -3);
    }

    private static void killed() {
        Check.sentence("A killed one ends with -1");
        ShareMonitor m = Check.with(BUSY, "spawn a dup kill drop wait l: yield jump l a: recv");
        m.kill(1);
        Check.same("by a call", m.state(1, 1), -1);
        m.run(20);
        Check.numbers(m, 2, -1, 1);
    }
}
