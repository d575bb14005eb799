/** Promises 17 and 18: cells and blocks that are given and come back. */
public final class MemoryTest {
    public static void main(String[] args) {
        allocating();
        wrongSizes();
        firstThatFits();
        freeing();
        joining();
        joinedWithin();
        giving();
        storing();
        keptCells();
        smallestBlocks();
        asking();
        Check.close("MemoryTest");
    }

    private static void allocating() {
        ShareMonitor m = Check.with("10 alloc emit 20 alloc emit 994 alloc emit 1 alloc emit");
        m.run(6);
        Check.blocks(m, 0, 10, 1, 10, 20, 1, 30, 994, 0);
        Check.same("free cells", m.count(3), 994);
        Check.same("held", m.state(1, 9), 30);
        m.run(6);
        Check.blocks(m, 0, 10, 1, 10, 20, 1, 30, 994, 1);
        Check.same("address", m.out(0), 0);
        Check.same("address", m.out(1), 10);
        Check.same("address", m.out(2), 30);
        Check.same("none is free", m.out(3), -1);
        Check.same("free cells", m.count(3), 0);
        m.tick();
        Check.blocks(m, 0, 1024, 0);
    }

    private static void wrongSizes() {
        ShareMonitor m = Check.with("0 alloc emit -1 alloc emit 1025 alloc emit -2147483648 alloc emit "
            + "2147483647 alloc emit 1024 alloc emit");
        m.run(18);
        for (int i = 0; i < 5; i++) {
            Check.same("no such size", m.out(i), -1);
        }
        Check.same("all", m.out(5), 0);
        Check.blocks(m, 0, 1024, 1);
    }

    private static void firstThatFits() {
        ShareMonitor m = Check.with("5 alloc drop 9 alloc drop 5 alloc drop 5 free emit "
            + "6 alloc emit 4 alloc emit 3 alloc emit 1 alloc emit");
        m.run(12);
        Check.blocks(m, 0, 5, 1, 5, 9, 0, 14, 5, 1, 19, 1005, 0);
        m.run(12);
        Check.same("the first that has 6", m.out(1), 5);
        Check.same("the first that has 4", m.out(2), 19);
        Check.same("all of what is left there", m.out(3), 11);
        Check.same("behind", m.out(4), 23);
        Check.blocks(m, 0, 5, 1, 5, 6, 1, 11, 3, 1, 14, 5, 1, 19, 4, 1, 23, 1, 1, 24, 1000, 0);
    }

    private static void freeing() {
        ShareMonitor m = Check.with("5 alloc drop 5 alloc drop 0 free emit 0 free emit 6 free emit -1 free emit "
            + "1024 free emit 5 free emit 2147483647 free emit", "9 alloc drop l: yield jump l");
        m.quantum(100);
        m.run(6 + 21);
        Check.same("its block", m.out(0), 0);
        Check.same("again", m.out(1), -1);
        Check.same("within", m.out(2), -1);
        Check.same("nowhere", m.out(3), -1);
        Check.same("nowhere", m.out(4), -1);
        Check.same("its other block", m.out(5), 0);
        Check.same("nowhere", m.out(6), -1);
        Check.blocks(m, 0, 1024, 0);
        ShareMonitor other = Check.with("yield 0 free emit 10", "3 alloc drop l: yield jump l");
        other.run(10);
        Check.same("another's block", other.out(0), -1);
        Check.same("is held still", other.block(0, 2), 2);
    }

    private static void joining() {
        String three = "10 alloc 10 alloc 10 alloc drop drop drop ";
        joined(three + "0 free", 0, 10, 0, 10, 10, 1, 20, 10, 1, 30, 994, 0);
        joined(three + "0 free 10 free", 0, 20, 0, 20, 10, 1, 30, 994, 0);
        joined(three + "10 free 0 free", 0, 20, 0, 20, 10, 1, 30, 994, 0);
        joined(three + "20 free", 0, 10, 1, 10, 10, 1, 20, 1004, 0);
        joined(three + "0 free 20 free", 0, 10, 0, 10, 10, 1, 20, 1004, 0);
        joined(three + "0 free 20 free 10 free", 0, 1024, 0);
        joined(three + "0 free 10 free 15 alloc", 0, 15, 1, 15, 5, 0, 20, 10, 1, 30, 994, 0);
        joined(three + "0 free 10 free 20 alloc", 0, 20, 1, 20, 10, 1, 30, 994, 0);
        joined(three + "0 free 10 free 10 free", 0, 20, 0, 20, 10, 1, 30, 994, 0);
        joined(three + "0 free 11 alloc", 0, 10, 0, 10, 10, 1, 20, 10, 1, 30, 11, 1, 41, 983, 0);
    }

    /** What began a block within a joined one begins none any more. */
    private static void joinedWithin() {
        ShareMonitor m = Check.with("10 alloc drop 10 alloc drop 0 free drop 10 free drop 20 alloc drop "
            + "10 free emit 10 1 give emit 10 2 give emit 0 free emit 0 free emit", "9 sleep");
        m.run(60);
        int[] want = {-1, -1, -1, 0, -1};
        for (int i = 0; i < want.length; i++) {
            Check.same("within a joined block: " + i, m.out(i), want[i]);
        }
    }

    private static void joined(String text, int... want) {
        ShareMonitor m = Check.with(text);
        m.run(m.count(9));
        Check.blocks(m, want);
    }

    private static void giving() {
        ShareMonitor m = Check.with("4 alloc 4 alloc drop drop 7 1 ! 0 2 give emit 0 2 give emit 4 1 give emit "
            + "5 2 give emit 4 3 give emit 4 0 give emit 4 13 give emit 4 9 give emit l: yield jump l",
            "2 alloc drop yield yield 1 @ emit 0 free emit l: yield jump l", "0 exit");
        m.quantum(100);
        m.run(200);
        int[] want = {0, -1, 0, -1, 0, -1, -1, -1};
        // Process 3 is alive still at its turn: 1 has done all of this by then.
        for (int i = 0; i < want.length; i++) {
            Check.same("give " + i, m.out(i), want[i]);
        }
        Check.same("what was in it", m.out(8), 7);
        Check.same("the new holder frees it", m.out(9), 0);
        ShareMonitor dead = Check.with("4 alloc drop yield 0 2 give emit l: yield jump l", "0 exit");
        dead.run(30);
        Check.same("to one that is ENDED", dead.out(0), -1);
        Check.same("it holds it", dead.block(0, 2), 1);
        ShareMonitor trapped = Check.with("4 alloc 2 give 0 @", "l: yield jump l");
        trapped.run(30);
        Check.same("given away: not its own", trapped.state(1, 1), -5);
        Check.same("the other holds it", trapped.state(2, 9), 4);
        Check.same("block", trapped.block(0, 2), 2);
    }

    private static void storing() {
        ShareMonitor m = Check.with("3 alloc drop 3 alloc drop 11 0 ! 22 2 ! 33 3 ! 44 5 ! 0 @ 2 @ 3 @ 5 @ 1 @ 5 6 !");
        m.run(28);
        int[] want = {11, 22, 33, 44, 0};
        for (int i = 0; i < want.length; i++) {
            Check.same("fetched " + i, m.stack(1, i), want[i]);
        }
        Check.same("cell 5", m.cell(5), 44);
        m.run(2);
        Check.same("alive", m.state(1, 0), 1);
        m.tick();
        Check.same("beyond its blocks", m.state(1, 1), -5);
        ShareMonitor other = Check.with("3 alloc drop l: yield jump l", "0 @");
        other.run(30);
        Check.same("another's block", other.state(2, 1), -5);
    }

    private static void keptCells() {
        ShareMonitor m = Check.with("3 alloc drop 5 0 ! 6 1 ! 7 2 ! 0 free drop 2 alloc drop l: yield jump l");
        m.run(15);
        Check.same("a free cell keeps its number", m.cell(0), 5);
        Check.same("a free cell keeps its number", m.cell(2), 7);
        m.run(2);
        Check.same("a given one is 0", m.cell(0), 0);
        Check.same("a given one is 0", m.cell(1), 0);
        Check.same("not given", m.cell(2), 7);
    }

    private static void smallestBlocks() {
        ShareMonitor m = Check.with("l: 1 alloc 0 < zero l 5 emit f: yield jump f");
        m.run(5000);
        m.run(4000);
        Check.same("1024 blocks", m.count(4), 1024);
        Check.same("the last block", m.block(1023, 0), 1023);
        Check.same("the last block", m.block(1023, 1), 1);
        Check.same("cells held", m.state(1, 9), 1024);
        Check.same("told", m.out(0), 5);
        Check.refused("block 1024", m, IndexOutOfBoundsException.class, () -> m.block(1024, 0));
        m.kill(1);
        Check.blocks(m, 0, 1024, 0);
    }

    private static void asking() {
        ShareMonitor m = Check.with("7 alloc");
        m.run(2);
        Check.refused("cell -1", m, IndexOutOfBoundsException.class, () -> m.cell(-1));
        Check.refused("cell 1024", m, IndexOutOfBoundsException.class, () -> m.cell(1024));
        Check.same("cell 1023", m.cell(1023), 0);
        Check.refused("block -1", m, IndexOutOfBoundsException.class, () -> m.block(-1, 0));
        Check.refused("block 2", m, IndexOutOfBoundsException.class, () -> m.block(2, 0));
        Check.refused("block far", m, IndexOutOfBoundsException.class, () -> m.block(Integer.MIN_VALUE, 0));
        Check.refused("what -1", m, IndexOutOfBoundsException.class, () -> m.block(0, -1));
        Check.refused("what 3", m, IndexOutOfBoundsException.class, () -> m.block(0, 3));
    }
}
