/** The instructions on the stack, the flow of a program, every trap, and promise 14. */
public final class InstructionTest {
    private static final int MIN = Integer.MIN_VALUE;
    private static final int MAX = Integer.MAX_VALUE;
    private static final String ONES = "1 ".repeat(40);

    public static void main(String[] args) {
        shuffles();
        sums();
        bits();
        comparisons();
        flow();
        tooFew();
        tooMany();
        fullStack();
        otherTraps();
        trapOrder();
        asking();
        Check.close("InstructionTest");
    }

    private static void shuffles() {
        Check.leaves("5 -6", 5, -6);
        Check.leaves("7 dup", 7, 7);
        Check.leaves("7 8 drop", 7);
        Check.leaves("7 8 swap", 8, 7);
        Check.leaves("7 8 over", 7, 8, 7);
        Check.leaves("1 2 3 4 rot", 1, 3, 4, 2);
        Check.leaves("3 not", -4);
        Check.leaves("-1 not", 0);
    }

    private static void sums() {
        Check.leaves("7 5 +", 12);
        Check.leaves("2147483647 1 +", MIN);
        Check.leaves("5 7 -", -2);
        Check.leaves("-2147483648 1 -", MAX);
        Check.leaves("-3 7 *", -21);
        Check.leaves("65536 65536 *", 0);
        Check.leaves("2147483647 2147483647 *", 1);
        Check.leaves("7 2 /", 3);
        Check.leaves("-7 2 /", -3);
        Check.leaves("7 -2 /", -3);
        Check.leaves("-7 -2 /", 3);
        Check.leaves("-2147483648 -1 /", MIN);
        Check.leaves("7 3 %", 1);
        Check.leaves("-7 3 %", -1);
        Check.leaves("7 -3 %", 1);
        Check.leaves("-2147483648 -1 %", 0);
    }

    private static void bits() {
        Check.leaves("12 10 and", 8);
        Check.leaves("12 10 or", 14);
        Check.leaves("12 10 xor", 6);
        Check.leaves("1 4 left", 16);
        Check.leaves("1 31 left", MIN);
        Check.leaves("1 33 left", 2);
        Check.leaves("1 -1 left", MIN);
        Check.leaves("-16 2 right", -4);
        Check.leaves("16 34 right", 4);
        Check.leaves("-1 -1 right", -1);
    }

    private static void comparisons() {
        Check.leaves("3 3 =", 1);
        Check.leaves("3 4 =", 0);
        Check.leaves("3 4 <", 1);
        Check.leaves("4 3 <", 0);
        Check.leaves("3 3 <", 0);
        Check.leaves("-2147483648 2147483647 <", 1);
        Check.leaves("4 3 >", 1);
        Check.leaves("3 4 >", 0);
        Check.leaves("3 3 >", 0);
        Check.leaves("2147483647 -2147483648 >", 1);
    }

    private static void flow() {
        ShareMonitor m = Check.with("0 zero a 1 emit a: 5 zero b 2 emit b: call c 3 emit 0 exit c: 4 emit return");
        m.run(6);
        Check.same("no return yet", m.state(1, 6), 0);
        m.tick();
        Check.same("one return", m.state(1, 6), 1);
        Check.same("next is the label's", m.state(1, 4), 13);
        m.run(100);
        Check.same("three numbers", m.count(1), 3);
        Check.same("not zero: goes on", m.out(0), 2);
        Check.same("called", m.out(1), 4);
        Check.same("returned", m.out(2), 3);
        Check.same("code", m.state(1, 1), 0);
        Check.same("exit is none that was done", m.state(1, 10), 13);
        m = Check.with("1 call z z:");
        m.run(2);
        Check.same("behind the last one", m.state(1, 4), 2);
        Check.same("alive", m.state(1, 0), 1);
        m.tick();
        Check.same("trapped", m.state(1, 1), -7);
    }

    private static void tooFew() {
        for (String word : new String[] {"dup", "drop", "not", "zero a", "@", "alloc", "free", "wait", "kill", "level",
            "sleep", "down", "up", "emit", "exit"}) {
            Check.ends("a: " + word, -2, 0);
        }
        for (String word : new String[] {"swap", "over", "+", "-", "*", "/", "%", "and", "or", "xor", "left", "right",
            "=", "<", ">", "!", "give", "send"}) {
            Check.ends(word, -2, 0);
            Check.ends("0 " + word, -2, 1);
        }
        Check.ends("1 2 rot", -2, 2);
        for (String word : new String[] {"self", "yield", "spawn a", "jump b b: 7", "call b b: 7"}) {
            ShareMonitor m = Check.with("a: " + word);
            m.tick();
            Check.same(word + " needs nothing", m.state(1, 0), 1);
        }
    }

    private static void tooMany() {
        ShareMonitor m = Check.with(ONES + "+ drop");
        m.run(40);
        Check.same("40 numbers", m.state(1, 5), 40);
        m.run(2);
        Check.same("38 numbers", m.state(1, 5), 38);
        for (String word : new String[] {"1", "dup", "over", "self"}) {
            Check.ends(ONES + word, -3, 40);
        }
        m = Check.with(ONES + "spawn a a: yield jump a");
        m.run(41);
        Check.same("spawn is trapped", m.state(1, 1), -3);
        Check.same("and does nothing else", m.state(2, 0), 0);
        m = Check.with(ONES + "drop recv");
        m.post(1, 5);
        m.run(42);
        Check.same("recv puts two", m.state(1, 1), -3);
        m = Check.with(ONES + "drop drop recv");
        m.post(1, 5);
        m.run(43);
        Check.same("recv has room for two", m.state(1, 5), 40);
        m = Check.with(ONES + "recv");
        m.run(41);
        Check.same("without a message it waits", m.state(1, 0), 2);
        m.post(1, 5);
        m.tick();
        Check.same("and is trapped then", m.state(1, 1), -3);
        m = Check.with(ONES + "readkey");
        m.run(41);
        Check.same("without a key it waits", m.state(1, 0), 4);
        m.key(1, 5);
        m.tick();
        Check.same("and is trapped then", m.state(1, 1), -3);
        Check.ends(ONES + "wait", -3, 40);
        m = Check.with("spawn a " + "1 ".repeat(38) + "2 wait a: 9 sleep 5 exit");
        m.run(60);
        Check.same("wait waits, then puts one more", m.state(1, 1), -3);
        m = Check.with("1 ".repeat(39) + "wait");
        m.run(40);
        Check.same("wait has room", m.state(1, 5), 40);
    }

    /** With 40 numbers what puts no more than it takes is done, and with 39 what puts one more. */
    private static void fullStack() {
        for (String word : new String[] {"drop", "swap", "rot", "+", "-", "*", "/", "%", "and", "or", "xor", "not", "left",
            "right", "=", "<", ">", "a: zero a", "alloc", "free", "give", "send", "kill", "level", "yield", "sleep", "emit",
            "up", "a: jump a", "call a a: return", "down"}) {
            done(ONES + word, 41);
        }
        done("1 alloc drop " + "0 ".repeat(40) + "@", 44);
        done("1 alloc drop " + "0 ".repeat(40) + "!", 44);
        done(ONES + "call a 1 a: return", 42);
        for (String word : new String[] {"1", "dup", "over", "self", "wait", "a: spawn a"}) {
            done("1 ".repeat(39) + word, 40);
        }
        ShareMonitor m = Check.with("1 ".repeat(39) + "readkey");
        m.key(1, 5);
        m.run(40);
        Check.same("readkey has room", m.state(1, 5), 40);
        m = Check.with(ONES + "exit");
        m.run(41);
        Check.same("exit", m.state(1, 1), 1);
    }

    private static void done(String text, int ticks) {
        ShareMonitor m = Check.with(text);
        m.run(ticks);
        Check.same("alive: " + text, m.count(7), 0);
        Check.same("done: " + text, m.state(1, 10) + m.state(2, 10), ticks);
    }

    private static void otherTraps() {
        Check.ends("1 0 /", -4, 2);
        Check.ends("1 0 %", -4, 2);
        Check.ends("0 @", -5, 1);
        Check.ends("0 0 !", -5, 2);
        Check.ends("-1 @", -5, 1);
        Check.ends("1024 @", -5, 1);
        Check.ends("-2147483648 @", -5, 1);
        Check.ends("1 2147483647 !", -5, 2);
        Check.ends("return", -6, 0);
        Check.ends("a: call a", -6, 20);
        Check.ends("1", -7, 1);
        Check.ends("jump z z:", -7, 1);
        Check.ends("8 down", -8, 1);
        Check.ends("-1 down", -8, 1);
        Check.ends("8 up", -8, 1);
        Check.ends("-1 up", -8, 1);
        Check.ends("3 level", -9, 1);
        Check.ends("-1 level", -9, 1);
        ShareMonitor m = Check.with("a: call a");
        m.run(20);
        Check.same("20 returns", m.state(1, 6), 20);
        Check.same("alive", m.state(1, 0), 1);
    }

    private static void trapOrder() {
        Check.ends("/", -2, 0);
        Check.ends("0 /", -2, 1);
        Check.ends("3 over", -2, 1);
        Check.ends("down", -2, 0);
        Check.ends("5 exit", 5, 1);
        Check.ends("-5 exit", -5, 1);
    }

    private static void asking() {
        ShareMonitor m = Check.with("10 20 30");
        m.run(3);
        Check.same("the lowest", m.stack(1, 0), 10);
        Check.same("the top", m.stack(1, 2), 30);
        Check.refused("above the top", m, IndexOutOfBoundsException.class, () -> m.stack(1, 3));
        Check.refused("below", m, IndexOutOfBoundsException.class, () -> m.stack(1, -1));
        Check.refused("far above", m, IndexOutOfBoundsException.class, () -> m.stack(1, MAX));
        Check.refused("process 0", m, IndexOutOfBoundsException.class, () -> m.stack(0, 0));
        Check.refused("process 13", m, IndexOutOfBoundsException.class, () -> m.stack(13, 0));
        Check.refused("a free one", m, IndexOutOfBoundsException.class, () -> m.stack(2, 0));
        m.tick();
        Check.refused("an ended one", m, IndexOutOfBoundsException.class, () -> m.stack(1, 0));
    }
}
