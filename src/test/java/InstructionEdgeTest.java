/** The edges of the instructions: each sentence of the third part that names one, in its order. */
public final class InstructionEdgeTest {
    private static final int MIN = Integer.MIN_VALUE;
    private static final int MAX = Integer.MAX_VALUE;
    private static final int[] EDGES = {MIN, MIN + 1, -32, -2, -1, 0, 1, 2, 31, 32, 33, MAX - 1, MAX};
    private static final int[] FREE = {0, 0, 0, 0, 0, 0, 0, 0, 0, 0, 0, 0, 0};
    private static final String STAY = " l: yield jump l";

    public static void main(String[] args) {
        justEnough();
        wrapping();
        dividing();
        bits();
        shifts();
        comparisons();
        zero();
        calls();
        memorySize();
        sideBySide();
        alloc();
        allocLeastAddress();
        allocZeroes();
        free();
        give();
        within();
        keptCells();
        send();
        sendWakes();
        recv();
        spawn();
        waitFor();
        kill();
        self();
        level();
        yieldTurn();
        sleep();
        sleepBelowOne();
        semaphores();
        down();
        up();
        emit();
        readkey();
        Check.close("InstructionEdgeTest");
    }

    private static void justEnough() {
        Check.sentence("(before - behind; the last one is the top)");
        Check.leaves("-2147483648 2147483647", MIN, MAX);
        Check.leaves("7 dup", 7, 7);
        Check.leaves("7 drop");
        Check.leaves("7 8 swap", 8, 7);
        Check.leaves("7 8 over", 7, 8, 7);
        Check.leaves("7 8 9 rot", 8, 9, 7);
        Check.leaves("6 7 8 9 rot", 6, 8, 9, 7);
    }

    /** Answers of a b word, worked out here with long numbers. */
    private static void wrapping() {
        Check.sentence("+ - * ( a b - result, wrapping )");
        for (int a : EDGES) {
            for (int b : EDGES) {
                Check.leaves(a + " " + b + " +", (int) ((long) a + b));
                Check.leaves(a + " " + b + " -", (int) ((long) a - b));
                Check.leaves(a + " " + b + " *", (int) ((long) a * b));
            }
        }
        Check.leaves("2147483647 1 +", MIN);
        Check.leaves("-2147483648 -1 *", MIN);
        Check.leaves("0 -2147483648 -", MIN);
    }

    private static void dividing() {
        Check.sentence("/ % ( towards 0; % has the sign of a )");
        for (int a : EDGES) {
            for (int b : EDGES) {
                if (b != 0) {
                    long size = Math.abs((long) a) / Math.abs((long) b);
                    long rest = Math.abs((long) a) % Math.abs((long) b);
                    Check.leaves(a + " " + b + " /", (int) ((a < 0) == (b < 0) ? size : -size));
                    Check.leaves(a + " " + b + " %", (int) (a < 0 ? -rest : rest));
                }
            }
        }
        Check.leaves("-2147483648 -1 /", MIN);
        Check.leaves("-7 2 /", -3);
        Check.leaves("-7 2 %", -1);
        Check.leaves("7 -2 %", 1);
    }

    private static void bits() {
        Check.sentence("and or xor ( bits ) not ( a - all bits turned )");
        Check.leaves("-2147483648 -1 and", MIN);
        Check.leaves("-2147483648 2147483647 or", -1);
        Check.leaves("-1 2147483647 xor", MIN);
        Check.leaves("0 not", -1);
        Check.leaves("-1 not", 0);
        Check.leaves("2147483647 not", MIN);
        Check.leaves("-2147483648 not", MAX);
    }

    private static void shifts() {
        Check.sentence("left right ( a b - a shifted by the lowest 5 bits of b; right keeps the sign )");
        for (int a : EDGES) {
            for (int b : EDGES) {
                int places = Math.floorMod(b, 32);
                Check.leaves(a + " " + b + " left", (int) ((long) a << places));
                Check.leaves(a + " " + b + " right", (int) Math.floorDiv((long) a, 1L << places));
            }
        }
        Check.leaves("-1 31 right", -1);
        Check.leaves("-2147483648 31 right", -1);
        Check.leaves("2147483647 31 right", 0);
        Check.leaves("5 32 left", 5);
        Check.leaves("1 -1 left", MIN);
    }

    private static void comparisons() {
        Check.sentence("= < > ( a b - 1 or 0 )");
        for (int a : EDGES) {
            for (int b : EDGES) {
                Check.leaves(a + " " + b + " =", (long) a - b == 0 ? 1 : 0);
                Check.leaves(a + " " + b + " <", (long) a - b < 0 ? 1 : 0);
                Check.leaves(a + " " + b + " >", (long) a - b > 0 ? 1 : 0);
            }
        }
    }

    private static void zero() {
        Check.sentence("zero ( a - ): if a is 0");
        for (int a : EDGES) {
            ShareMonitor m = Check.with(a + " zero z 5 z: 6");
            m.run(2);
            Check.same("next behind " + a + " zero", m.state(1, 4), a == 0 ? 3 : 2);
            Check.same("the number is gone", m.state(1, 5), 0);
        }
    }

    private static void calls() {
        Check.sentence("call: RETURNS get the number behind it. return: that is next");
        ShareMonitor m = Check.with("jump b a: return b: call a 5 call a");
        m.run(2);
        Check.same("returns", m.state(1, 6), 1);
        Check.same("next", m.state(1, 4), 1);
        m.tick();
        Check.same("returns", m.state(1, 6), 0);
        Check.same("next", m.state(1, 4), 3);
        m.run(3);
        Check.same("behind the last one", m.state(1, 4), 5);
        Check.same("it is alive", m.state(1, 0), 1);
        m.tick();
        Check.same("till its next turn", m.state(1, 1), -7);
    }

    private static void memorySize() {
        Check.sentence("MEMORY is 1024 cells, 0 .. 1023, in BLOCKS, each free or held by a process");
        ShareMonitor m = Check.with("1024 alloc 9 1023 ! 8 0 !" + STAY);
        m.run(8);
        Check.same("the first", m.cell(0), 8);
        Check.same("the last", m.cell(1023), 9);
        Check.blocks(m, 0, 1024, 1);
        Check.same("no free cell", m.count(3), 0);
        Check.same("one block", m.count(4), 1);
        // Twelve holders, one cell each.
        ShareMonitor twelve = Check.with("a: 1 alloc spawn a" + STAY);
        twelve.run(300);
        for (int p = 1; p <= 12; p++) {
            Check.same("holder of block " + (p - 1), twelve.block(p - 1, 2), p);
            Check.same("cells of " + p, twelve.state(p, 9), 1);
        }
        Check.same("blocks", twelve.count(4), 13);
    }

    private static void sideBySide() {
        Check.sentence("no two free ones lie side by side (they are one)");
        String four = "4 alloc 4 alloc 4 alloc 1012 alloc ";
        after(four + "0 free", 0, 4, 0, 4, 4, 1, 8, 4, 1, 12, 1012, 1);
        after(four + "0 free 4 free", 0, 8, 0, 8, 4, 1, 12, 1012, 1);
        after(four + "4 free 0 free", 0, 8, 0, 8, 4, 1, 12, 1012, 1);
        after(four + "0 free 8 free", 0, 4, 0, 4, 4, 1, 8, 4, 0, 12, 1012, 1);
        after(four + "0 free 8 free 4 free", 0, 12, 0, 12, 1012, 1);
        after(four + "12 free 8 free", 0, 4, 1, 4, 4, 1, 8, 1016, 0);
        after(four + "12 free 0 free 8 free 4 free", 0, 1024, 0);
        // Held blocks side by side stay what they are.
        after(four, 0, 4, 1, 4, 4, 1, 8, 4, 1, 12, 1012, 1);
        // A process's end makes one of its blocks and the free ones beside them.
        ShareMonitor m = Check.with("4 alloc yield 4 alloc" + STAY, "4 alloc yield 4 alloc" + STAY);
        m.run(40);
        Check.blocks(m, 0, 4, 1, 4, 4, 2, 8, 4, 1, 12, 4, 2, 16, 1008, 0);
        m.kill(1);
        Check.blocks(m, 0, 4, 0, 4, 4, 2, 8, 4, 0, 12, 4, 2, 16, 1008, 0);
        m.kill(2);
        Check.blocks(m, 0, 1024, 0);
    }

    private static void after(String text, int... blocks) {
        ShareMonitor m = Check.with(text);
        m.run(m.count(9));
        Check.blocks(m, blocks);
    }

    private static void alloc() {
        Check.sentence("alloc ( n - address, or -1 ): .. that has n cells (n 1 .. 1024; else -1)");
        for (int n : new int[] {0, -1, 1025, MIN, MAX}) {
            Check.leaves(n + " alloc", -1);
            after(n + " alloc", 0, 1024, 0);
        }
        after("1 alloc", 0, 1, 1, 1, 1023, 0);
        after("1023 alloc", 0, 1023, 1, 1023, 1, 0);
        after("1024 alloc", 0, 1024, 1);
        Check.leaves("1024 alloc 1 alloc", 0, -1);
        Check.leaves("1023 alloc 1 alloc 1 alloc", 0, 1023, -1);
        Check.leaves("1023 alloc 2 alloc", 0, -1);
        // Enough free cells, but in no one block.
        Check.leaves("500 alloc 24 alloc 500 alloc swap drop free swap free 501 alloc 500 alloc 500 alloc", 0, 0, -1, 0, 524);
        Check.leaves("500 alloc 24 alloc drop drop 0 free drop 501 alloc 500 alloc", -1, 0);
    }

    private static void allocLeastAddress() {
        Check.sentence("the free block with the least address that has n cells gives its first n");
        String holes = "2 alloc 1 alloc 3 alloc 1 alloc 4 alloc 1 alloc drop drop drop drop drop drop "
            + "0 free drop 3 free drop 7 free drop ";
        Check.leaves(holes + "1 alloc", 0);
        Check.leaves(holes + "2 alloc", 0);
        Check.leaves(holes + "3 alloc", 3);
        Check.leaves(holes + "4 alloc", 7);
        Check.leaves(holes + "5 alloc", 12);
        Check.leaves(holes + "1 alloc 2 alloc 1 alloc 1 alloc 1 alloc", 0, 3, 1, 5, 7);
        after(holes + "1 alloc", 0, 1, 1, 1, 1, 0, 2, 1, 1, 3, 3, 0, 6, 1, 1, 7, 4, 0, 11, 1, 1, 12, 1012, 0);
        after(holes + "2 alloc", 0, 2, 1, 2, 1, 1, 3, 3, 0, 6, 1, 1, 7, 4, 0, 11, 1, 1, 12, 1012, 0);
    }

    private static void allocZeroes() {
        Check.sentence("they are 0");
        ShareMonitor m = Check.with("3 alloc drop 5 0 ! 6 1 ! 7 2 ! 0 free drop 2 alloc" + STAY);
        m.run(17);
        Check.same("given", m.cell(0), 0);
        Check.same("given", m.cell(1), 0);
        Check.same("not given", m.cell(2), 7);
    }

    private static void free() {
        Check.sentence("free ( address - 0, or -1 ): a block that it holds, that begins there, is free");
        for (int address : new int[] {-1, 1, 4, 5, 1023, 1024, MIN, MAX}) {
            Check.leaves("4 alloc drop " + address + " free", -1);
            after("4 alloc drop " + address + " free", 0, 4, 1, 4, 1020, 0);
        }
        Check.leaves("4 alloc free", 0);
        Check.leaves("1 alloc free", 0);
        Check.leaves("1 alloc drop 1 alloc drop 1 free 0 free", 0, 0);
        Check.leaves("4 alloc dup free swap free", 0, -1);
        Check.leaves("1020 alloc drop 4 alloc free", 0);
        ShareMonitor m = Check.with("4 alloc" + STAY, "0 free emit" + STAY);
        m.run(20);
        Check.console(m, -1);
        Check.blocks(m, 0, 4, 1, 4, 1020, 0);
        // A place where a block began before it became a part of a greater one.
        Check.leaves("4 alloc 4 alloc free swap free 8 alloc 4 free", 0, 0, 0, -1);
    }

    private static void give() {
        Check.sentence("give ( address p - 0, or -1 ): such a block is held by process p, alive, from now on");
        for (int p : new int[] {0, -1, 2, 12, 13, MIN, MAX}) {
            Check.leaves("4 alloc " + p + " give", -1);
            after("4 alloc " + p + " give", 0, 4, 1, 4, 1020, 0);
        }
        for (int address : new int[] {-1, 1, 4, 1023, 1024, MIN, MAX}) {
            Check.leaves("4 alloc drop " + address + " 1 give", -1);
        }
        Check.leaves("4 alloc 1 give 0 @ 0 free", 0, 0, 0);
        ShareMonitor one = Check.with("1 alloc 1 alloc 1 alloc drop 2 give" + STAY, STAY);
        one.run(20);
        Check.numbers(one, 1, 0, 0);
        Check.blocks(one, 0, 1, 1, 1, 1, 2, 2, 1, 1, 3, 1021, 0);
        ShareMonitor ended = Check.with("yield 4 alloc 2 give" + STAY, "0 exit");
        ended.run(20);
        Check.numbers(ended, 1, -1);
        for (String waits : new String[] {"recv", "readkey", "900 sleep", "0 down", STAY}) {
            ShareMonitor m = Check.with("yield 4 alloc dup 2 give over 2 give" + STAY, waits);
            m.run(20);
            Check.numbers(m, 1, 0, 0, -1);
            Check.blocks(m, 0, 4, 2, 4, 1020, 0);
            Check.same("it has it", m.state(2, 9), 4);
            Check.same("no more its own", m.state(1, 9), 0);
        }
    }

    private static void within() {
        Check.sentence("@ ( address - what is there ) ! ( a address - ): within blocks that it holds");
        Check.leaves("3 alloc drop 2 alloc drop 7 2 ! 8 3 ! 9 4 ! 2 @ 3 @ 4 @ 0 @", 7, 8, 9, 0);
        Check.ends("3 alloc drop 2 alloc drop 5 @", -5, 7);
        Check.ends("3 alloc drop 2 alloc drop 0 free drop 2 @", -5, 10);
        Check.leaves("3 alloc drop 2 alloc drop 0 free drop 3 @", 0);
        ShareMonitor m = Check.with("3 alloc drop 6 1 ! 0 2 give drop 1 @", "yield yield 1 @ emit" + STAY);
        m.run(40);
        Check.same("given away", m.state(1, 1), -5);
        Check.console(m, 6);
    }

    private static void keptCells() {
        Check.sentence("(Cells of a block that becomes free keep what they had.)");
        ShareMonitor m = Check.with("3 alloc drop 6 1 ! 0 free" + STAY, "2 alloc drop 8 0 !" + STAY);
        m.quantum(100);
        m.run(8);
        Check.same("by free", m.cell(1), 6);
        m.kill(1);
        m.run(6);
        Check.same("given again", m.cell(1), 0);
        Check.same("stored", m.cell(0), 8);
        m.kill(2);
        Check.same("by an end", m.cell(0), 8);
        m.reap(2);
        Check.same("still", m.cell(0), 8);
    }

    private static void send() {
        Check.sentence("send ( a p - 0; -1: p is not alive; -2: its box is full )");
        for (int p : new int[] {0, -1, 2, 12, 13, MIN, MAX}) {
            Check.leaves("5 " + p + " send", -1);
        }
        Check.leaves("5 1 send", 0);
        ShareMonitor ended = Check.with("yield 5 2 send" + STAY, "0 exit");
        ended.post(2, 1);
        ended.run(20);
        Check.numbers(ended, 1, -1);
        ShareMonitor m = Check.with("yield 5 2 send 6 2 send" + STAY, STAY);
        for (int i = 0; i < 7; i++) {
            m.post(2, i);
        }
        m.run(20);
        Check.numbers(m, 1, 0, -2);
        Check.same("messages", m.state(2, 7), 8);
        Check.same("the last one", m.message(2, 7, false), 5);
        Check.same("whose", m.message(2, 7, true), 1);
        m.kill(2);
        Check.load(m, "5 2 send" + STAY, 0);
        m.run(20);
        Check.numbers(m, 3, -1);
    }

    private static void sendWakes() {
        Check.sentence("the message comes behind the others; if p waits for a message it becomes READY");
        ShareMonitor m = Check.with("recv recv" + STAY, "5 1 send 6 1 send" + STAY);
        m.run(4);
        Check.same("READY", m.state(1, 0), 1);
        m.run(20);
        Check.numbers(m, 1, 5, 2, 6, 2);
        for (String waits : new String[] {"readkey", "900 sleep", "0 down"}) {
            ShareMonitor other = Check.with(waits, "5 1 send" + STAY);
            other.run(20);
            Check.same("it waits for something else: " + waits, other.count(6), 1);
            Check.same("it has it", other.state(1, 7), 1);
        }
    }

    private static void recv() {
        Check.sentence("recv ( - a p ): the first message goes out of its own box; without one it must wait (2)");
        ShareMonitor m = Check.with("recv recv recv");
        m.post(1, MIN);
        m.post(1, MAX);
        m.run(2);
        Check.numbers(m, 1, MIN, 0, MAX, 0);
        Check.same("the box is empty", m.state(1, 7), 0);
        m.tick();
        Check.same("waits", m.state(1, 0), 2);
        Check.same("for nothing told by a number", m.state(1, 11), 0);
    }

    private static void spawn() {
        Check.sentence("spawn ( - p, or -1 ): a new process, READY, with the same program, its level, .. -1 if none is FREE");
        ShareMonitor m = new ShareMonitor();
        Check.load(m, "1 level spawn a" + STAY + " a: recv", 2);
        m.run(3);
        Check.states(m, 2, 1, 0, 1, 1, 5, 0, 0, 0, 0, 0, 0, 0, 0);
        Check.same("one program", m.count(8), 1);
        ShareMonitor full = Check.with("l: spawn a emit jump l a: 0 exit");
        full.run(500);
        Check.same("children that are ENDED are not FREE", full.out(11), -1);
        Check.same("ENDED", full.count(7), 11);
        ShareMonitor again = Check.with("l: spawn a wait emit emit jump l a: self exit");
        again.run(100);
        Check.same("FREE again", again.out(0), 1);
        Check.same("the same number", again.out(1), 2);
        Check.same("the same number", again.out(3), 2);
    }

    private static void waitFor() {
        Check.sentence("wait ( p - code 1, or 0 0 ): p is a child of it: ENDED: its code, and p is FREE; alive: ..; else 0 0");
        for (int p : new int[] {0, -1, 1, 2, 12, 13, MIN, MAX}) {
            Check.leaves("7 " + p + " wait", 7, 0, 0);
        }
        ShareMonitor m = Check.with("spawn a 8 sleep wait" + STAY + " a: 5 exit");
        m.quantum(100);
        m.run(6);
        Check.same("ENDED", m.state(2, 0), 7);
        m.run(8);
        Check.numbers(m, 1, 5, 1);
        Check.states(m, 2, FREE);
        ShareMonitor others = Check.with("spawn a drop 3 wait" + STAY + " a: spawn b drop 1 wait s: yield jump s "
            + "b: recv");
        others.run(60);
        Check.numbers(others, 1, 0, 0);
        Check.numbers(others, 2, 0, 0);
        ShareMonitor orphan = Check.with("spawn a 0 exit a: spawn b 0 exit b: 1 wait 2 wait" + STAY);
        orphan.run(60);
        Check.same("its parent is no child of it", orphan.state(3, 5), 4);
    }

    private static void kill() {
        Check.sentence("kill ( p - 0, or -1 ): a child of it that is alive ENDS with -1");
        for (int p : new int[] {0, -1, 1, 2, 12, 13, MIN, MAX}) {
            Check.leaves(p + " kill", -1);
        }
        ShareMonitor m = Check.with("spawn a dup kill 2 kill" + STAY + " a: recv");
        m.run(20);
        Check.numbers(m, 1, 2, 0, -1);
        Check.states(m, 2, 7, -1, 0, 1, 0, 0, 0, 0, 0, 0, 0, 0, 0);
        ShareMonitor other = Check.with("spawn a drop yield yield 3 kill" + STAY + " a: spawn b 1 kill recv b: recv");
        other.run(40);
        Check.numbers(other, 1, -1);
        Check.numbers(other, 2, 3, -1);
        Check.same("all live", other.count(5), 3);
        for (String waits : new String[] {"readkey", "900 sleep", "0 down", "l: jump l", "2 spawn b wait b: recv"}) {
            ShareMonitor each = Check.with("spawn a yield yield kill r: yield jump r a: " + waits);
            each.run(40);
            Check.numbers(each, 1, 0);
            Check.same("killed: " + waits, each.state(2, 1), -1);
        }
    }

    private static void self() {
        Check.sentence("self ( - its number )");
        ShareMonitor m = Check.with("a: self emit spawn a recv");
        m.run(200);
        Check.console(m, 1, 2, 3, 4, 5, 6, 7, 8, 9, 10, 11, 12);
    }

    private static void level() {
        Check.sentence("level ( a - ): that is its level; it comes to the end of that row");
        for (int level = 0; level <= 2; level++) {
            ShareMonitor m = new ShareMonitor();
            Check.load(m, level + " level", 0);
            Check.load(m, STAY, level);
            Check.load(m, STAY, level);
            m.quantum(100);
            m.run(2);
            Check.row(m, level, 2, 3, 1);
            Check.same("its level", m.state(1, 2), level);
            Check.same("in a row", m.state(1, 12), 0);
            Check.same("done", m.state(1, 10), 2);
        }
    }

    private static void yieldTurn() {
        Check.sentence("yield ( - ): to the end of its row");
        ShareMonitor m = Check.with("1 2 yield", STAY, STAY);
        m.run(3);
        Check.row(m, 0, 2, 3, 1);
        Check.states(m, 1, 1, 0, 0, 0, 3, 2, 0, 0, 0, 0, 3, 0, 0);
        ShareMonitor alone = Check.with("yield yield");
        Check.same("alone", alone.tick(), 1);
        Check.row(alone, 0, 1);
        Check.same("alone again", alone.tick(), 1);
    }

    private static void sleep() {
        Check.sentence("sleep ( a - ): the instruction is done, and it SLEEPS, until the clock is a more than now");
        ShareMonitor one = Check.with("1 sleep 7");
        one.run(2);
        Check.states(one, 1, 5, 0, 0, 0, 2, 0, 0, 0, 0, 0, 2, 3, 0);
        Check.same("one tick later", one.tick(), 1);
        Check.numbers(one, 1, 7);
        ShareMonitor two = Check.with("2 sleep 7");
        two.run(2);
        Check.same("clock 3", two.tick(), ShareMonitor.NONE);
        Check.same("clock 4", two.tick(), 1);
        ShareMonitor most = Check.with("2147483647 sleep", "2147483643 sleep", "2147483640 sleep");
        most.quantum(2);
        most.run(6);
        Check.same("2147483647 at most", most.state(1, 11), MAX);
        Check.same("just so", most.state(2, 11), MAX);
        Check.same("less", most.state(3, 11), 2147483646);
        Check.same("they sleep", most.run(5000), 0);
    }

    private static void sleepBelowOne() {
        Check.sentence("a below 1: as yield");
        for (int a : new int[] {0, -1, MIN}) {
            ShareMonitor m = Check.with(a + " sleep 7", STAY);
            m.run(2);
            Check.states(m, 1, 1, 0, 0, 0, 2, 0, 0, 0, 0, 0, 2, 0, 0);
            Check.row(m, 0, 2, 1);
        }
    }

    private static void semaphores() {
        Check.sentence("SEMAPHORES 0 .. 7 have a VALUE (0 at first) and a row of those that wait");
        ShareMonitor m = Check.with("0 up 7 up 7 up 3 down", "7 down 7 down 7 down");
        for (int k = 0; k < 8; k++) {
            Check.same("at first", m.semaphore(k, 0), 0);
            Check.same("none waits", m.semaphore(k, 1), 0);
        }
        m.run(40);
        int[] values = {1, 0, 0, 0, 0, 0, 0, 0};
        int[] waiting = {0, 0, 0, 1, 0, 0, 0, 1};
        for (int k = 0; k < 8; k++) {
            Check.same("value " + k, m.semaphore(k, 0), values[k]);
            Check.same("waiting " + k, m.semaphore(k, 1), waiting[k]);
        }
        Check.same("who", m.semaphore(3, 2), 1);
        Check.same("who", m.semaphore(7, 2), 2);
    }

    private static void down() {
        Check.sentence("down ( k - ): with a VALUE above 0 that is 1 less; else it waits (6), at the end of the row");
        ShareMonitor m = Check.with("4 up 4 down 4 down" + STAY, "4 down", "4 down");
        m.run(4);
        Check.same("1 less", m.semaphore(4, 0), 0);
        Check.same("READY", m.state(1, 0), 1);
        m.run(20);
        Check.same("three wait", m.semaphore(4, 1), 3);
        Check.same("0 still", m.semaphore(4, 0), 0);
        Check.same("first", m.semaphore(4, 2), 2);
        Check.same("second", m.semaphore(4, 3), 3);
        Check.same("third", m.semaphore(4, 4), 1);
        Check.same("the instruction is done", m.state(1, 10), 6);
        ShareMonitor eleven = Check.with("spawn a ".repeat(11) + "6 down a: 6 down");
        eleven.run(60);
        Check.same("all twelve wait", eleven.semaphore(6, 1), 12);
        Check.same("none is READY", eleven.count(6), 0);
    }

    private static void up() {
        Check.sentence("up ( k - ): if some wait, the first becomes READY; else the VALUE is 1 more (1000000 at most)");
        ShareMonitor m = Check.with("4 down 11 emit", "4 down 22 emit", "4 up 4 up 4 up" + STAY);
        m.quantum(100);
        m.run(6);
        Check.same("the first", m.state(1, 0), 1);
        Check.same("the other waits", m.state(2, 0), 6);
        Check.same("the value stays", m.semaphore(4, 0), 0);
        m.run(4);
        Check.same("the other", m.state(2, 0), 1);
        Check.same("none waits: the value", m.semaphore(4, 0), 1);
        // 2 000 508 ticks would make more than a million of them.
        ShareMonitor most = Check.with("5 l: " + "dup up ".repeat(126) + "jump l", "recv drop drop 5 down 5 down" + STAY);
        for (int i = 0; i < 404; i++) {
            most.run(5000);
        }
        Check.same("at most", most.semaphore(5, 0), 1000000);
        most.kill(1);
        most.post(2, 0);
        most.run(5);
        Check.same("1 less", most.semaphore(5, 0), 999999);
        most.run(2);
        Check.same("1 less", most.semaphore(5, 0), 999998);
    }

    private static void emit() {
        Check.sentence("emit ( a - ): a comes to the console (2000 numbers; what is more is lost, and counted)");
        ShareMonitor m = Check.with("0 l: dup emit 1 + jump l");
        m.run(5000);
        m.run(4998);
        Check.same("numbers", m.count(1), 2000);
        Check.same("lost", m.count(2), 0);
        Check.same("the last one", m.out(1999), 1999);
        m.run(5);
        Check.same("numbers", m.count(1), 2000);
        Check.same("lost", m.count(2), 1);
        Check.same("the last one", m.out(1999), 1999);
        Check.same("emit is done", m.state(1, 0), 1);
        m.run(5000);
        Check.same("lost", m.count(2), 1001);
        ShareMonitor edges = Check.with("-2147483648 emit 2147483647 emit");
        edges.run(4);
        Check.console(edges, MIN, MAX);
    }

    private static void readkey() {
        Check.sentence("readkey ( - a ): the first of its keys; without one it must wait (4)");
        ShareMonitor m = Check.with("readkey readkey readkey");
        m.key(1, MIN);
        m.key(1, MAX);
        m.run(2);
        Check.numbers(m, 1, MIN, MAX);
        Check.same("no key is left", m.state(1, 8), 0);
        m.tick();
        Check.same("waits", m.state(1, 0), 4);
        Check.same("for nothing told by a number", m.state(1, 11), 0);
        m.post(1, 5);
        Check.same("a message is no key", m.state(1, 0), 4);
        m.key(1, 5);
        Check.same("READY", m.state(1, 0), 1);
    }
}
