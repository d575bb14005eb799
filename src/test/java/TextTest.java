/** Promises 1 to 5: a new object, the tape, and texts that are programs or have faults. */
public final class TextTest {
    private static final String[] WORDS = {
        "dup", "drop", "swap", "over", "rot", "+", "-", "*", "/", "%", "and", "or", "xor", "not", "left", "right",
        "=", "<", ">", "@", "!", "return", "alloc", "free", "give", "send", "recv", "wait", "kill", "self", "level",
        "yield", "sleep", "down", "up", "emit", "readkey", "exit"
    };
    private static final String[] WITH_NAME = {"jump", "zero", "call", "spawn"};

    public static void main(String[] args) {
        newObject();
        feeding();
        fullTape();
        ending();
        loading();
        refusedLoads();
        words();
        numbers();
        comments();
        unknownWords();
        namesBehind();
        labels();
        manyInstructions();
        missingLabels();
        firstFaultCounts();
        Check.close("TextTest");
    }

    private static void newObject() {
        ShareMonitor m = new ShareMonitor();
        int[] counts = {0, 0, 0, 1024, 1, 0, 0, 0, 0, 0, 0};
        for (int what = 0; what < counts.length; what++) {
            Check.same("new: count " + what, m.count(what), counts[what]);
        }
        for (int p = 1; p <= 12; p++) {
            for (int what = 0; what <= 12; what++) {
                Check.same("new: state " + p + " " + what, m.state(p, what), 0);
            }
        }
        for (int address = 0; address < 1024; address++) {
            Check.same("new: cell", m.cell(address), 0);
        }
        for (int k = 0; k < 8; k++) {
            Check.same("new: value", m.semaphore(k, 0), 0);
            Check.same("new: waiting", m.semaphore(k, 1), 0);
        }
        Check.same("new: fault", m.fault(), 0);
        Check.same("new: quantum", m.quantum(4), 4);
        Check.same("new: tick", m.tick(), ShareMonitor.NONE);
    }

    private static void feeding() {
        ShareMonitor m = new ShareMonitor();
        // "12345678 emit 9 emit" by hand: the highest byte of each number comes first.
        Check.same("feed", m.feed(0x31323334, 0x35363738, 0x20656d69, 0x74203920, 0x656d6974), 20);
        Check.same("count 10", m.count(10), 20);
        Check.same("load", m.load(0), 1);
        m.run(4);
        Check.same("out 0", m.out(0), 12345678);
        Check.same("out 1", m.out(1), 9);
        Check.same("feed", m.feed(-1, 0, 0, 0, 0), 20);
        Check.same("feed", m.feed(0, 0, 0, 0, 0), 40);
        Check.same("load of bytes 255", m.load(0), -1);
        Check.same("fault of bytes 255", m.fault(), 1);
    }

    private static void fullTape() {
        ShareMonitor m = new ShareMonitor();
        for (int i = 1; i <= 409; i++) {
            Check.same("feed", m.feed(0x20202020, 0x20202020, 0x20202020, 0x20202020, 0x20202020), 20 * i);
        }
        Check.refused("feed beyond 8192", m, UnsupportedOperationException.class, () -> m.feed(1, 2, 3, 4, 5));
        m.end(8173);
        Check.refused("feed to 8193", m, UnsupportedOperationException.class, () -> m.feed(1, 2, 3, 4, 5));
        m.end(8172);
        Check.same("feed to 8192", m.feed(0x20202020, 0x20202020, 0x20202020, 0x20202020, 0x2020207a), 8192);
        Check.same("a fault at the last byte", m.load(0), -1 - 8191);
        Check.same("its code", m.fault(), 1);
    }

    private static void ending() {
        ShareMonitor m = new ShareMonitor();
        Check.refused("end below 0", m, IllegalArgumentException.class, () -> m.end(-1));
        Check.refused("end beyond", m, IllegalArgumentException.class, () -> m.end(1));
        m.end(0);
        Check.feed(m, "1 2 3");
        Check.refused("end beyond", m, IllegalArgumentException.class, () -> m.end(6));
        Check.refused("end far beyond", m, IllegalArgumentException.class, () -> m.end(Integer.MAX_VALUE));
        Check.refused("end far below", m, IllegalArgumentException.class, () -> m.end(Integer.MIN_VALUE));
        m.end(5);
        Check.same("kept whole", m.count(10), 5);
        m.end(3);
        Check.same("kept", m.count(10), 3);
        Check.same("load", m.load(2), 1);
        Check.same("instructions", m.count(9), 2);
        Check.same("the tape is empty", m.count(10), 0);
    }

    private static void loading() {
        ShareMonitor m = new ShareMonitor();
        for (int p = 1; p <= 12; p++) {
            Check.same("load", Check.load(m, "1 2 exit", p % 3), p);
            Check.same("READY", m.state(p, 0), 1);
            Check.same("level", m.state(p, 2), p % 3);
            Check.same("parent", m.state(p, 3), 0);
        }
        Check.same("row", m.ready(0, 0), 3);
        Check.same("row", m.ready(0, 3), 12);
        Check.same("programs", m.count(8), 12);
        Check.same("instructions", m.count(9), 36);
        m.kill(5);
        m.kill(2);
        Check.same("reap", m.reap(5), -1);
        Check.same("reap", m.reap(2), -1);
        Check.same("the least that is free", Check.load(m, "1", 1), 2);
        Check.same("the next one", Check.load(m, "1", 1), 5);
        Check.same("row's end", m.ready(1, 5), 5);
        Check.same("instructions", m.count(9), 32);
    }

    private static void refusedLoads() {
        ShareMonitor m = new ShareMonitor();
        fault(m, "x", 1, 0);
        Check.feed(m, "1");
        Check.refused("level -1", m, IndexOutOfBoundsException.class, () -> m.load(-1));
        Check.refused("level 3", m, IndexOutOfBoundsException.class, () -> m.load(3));
        Check.same("the fault of the load before", m.fault(), 1);
        Check.same("load", m.load(2), 1);
        Check.same("no fault", m.fault(), 0);
        for (int p = 2; p <= 12; p++) {
            Check.load(m, "1", 0);
        }
        Check.feed(m, "1 x");
        Check.refused("none free", m, UnsupportedOperationException.class, () -> m.load(0));
        Check.refused("level first", m, IndexOutOfBoundsException.class, () -> m.load(3));
        m.kill(7);
        Check.refused("ENDED is not free", m, UnsupportedOperationException.class, () -> m.load(0));
        m.reap(7);
        Check.same("a fault", m.load(0), -3);
        Check.same("the tape is empty", m.count(10), 0);
        Check.same("no process", m.state(7, 0), 0);
        Check.same("no program", m.count(8), 11);
    }

    private static void words() {
        for (String word : WORDS) {
            good(word, 1);
            fault(new ShareMonitor(), "1 " + word + ":", 1, 2);
            fault(new ShareMonitor(), "1 " + word + "x", 1, 2);
            for (String first : WITH_NAME) {
                fault(new ShareMonitor(), first + " " + word, 2, first.length() + 1);
            }
        }
        for (String first : WITH_NAME) {
            good("a: " + first + " a", 1);
            fault(new ShareMonitor(), first + ":", 1, 0);
            fault(new ShareMonitor(), first + " " + first, 2, first.length() + 1);
        }
        fault(new ShareMonitor(), "DUP", 1, 0);
        good("\t\r\n dup\tdrop\r1\n2 ", 4);
        fault(new ShareMonitor(), "dup\fdrop", 1, 0);
        fault(new ShareMonitor(), "dup\0", 1, 0);
        good("number: emitter: jump1: 1", 1);
    }

    private static void numbers() {
        number("0", 0);
        number("-0", 0);
        number("007", 7);
        number("2147483647", Integer.MAX_VALUE);
        number("-2147483648", Integer.MIN_VALUE);
        number("-00000000000000000000000000000000000012", -12);
        number("00000000000000000000000000000000000012", 12);
        for (String bad : new String[] {"2147483648", "-2147483649", "+1", "1-", "--1", "1a", "-a", "0x1", "1.0",
            "18446744073709551617", "4294967297", "-99999999999999999999999999999999999", "1:", "-:"}) {
            fault(new ShareMonitor(), "1 " + bad, 1, 2);
        }
        ShareMonitor m = Check.with("7 5 - emit");
        m.run(4);
        Check.same("- alone takes away", m.out(0), 2);
    }

    private static void comments() {
        good("# all of it\n1 #2 3\n4", 2);
        good("1 # to the end", 1);
        good("#\n#\n1\n##x", 1);
        good("a: jump # between\n # and more\n a", 1);
        fault(new ShareMonitor(), "1 dup#x", 1, 2);
        fault(new ShareMonitor(), "1 #x\rfoo\nbar", 1, 9);
        fault(new ShareMonitor(), "# 1", 7, 3);
    }

    private static void unknownWords() {
        fault(new ShareMonitor(), " foo", 1, 1);
        fault(new ShareMonitor(), ":", 1, 0);
        fault(new ShareMonitor(), "1a:", 1, 0);
        fault(new ShareMonitor(), "a::", 1, 0);
        fault(new ShareMonitor(), "A:", 1, 0);
        fault(new ShareMonitor(), "a_b:", 1, 0);
        good("abcdefghijkl: 1", 1);
        good("a23456789012: 1", 1);
        fault(new ShareMonitor(), "abcdefghijklm: 1", 1, 0);
        fault(new ShareMonitor(), "1 \u00e9", 1, 2);
    }

    private static void namesBehind() {
        for (String first : WITH_NAME) {
            int size = first.length();
            fault(new ShareMonitor(), first, 2, size);
            fault(new ShareMonitor(), first + "  ", 2, size + 2);
            fault(new ShareMonitor(), first + " # a", 2, size + 4);
            fault(new ShareMonitor(), first + " 5 a", 2, size + 1);
            fault(new ShareMonitor(), first + " a: a", 2, size + 1);
            fault(new ShareMonitor(), first + " A", 2, size + 1);
            fault(new ShareMonitor(), first + " abcdefghijklm", 2, size + 1);
            good("abcdefghijkl: " + first + " abcdefghijkl", 1);
            good(first + " z z: ", 1);
        }
    }

    private static void labels() {
        fault(new ShareMonitor(), "a: 1 a: 2", 3, 5);
        good("a: ab: abc: b: 1", 1);
        StringBuilder text = new StringBuilder();
        for (int i = 0; i < 32; i++) {
            text.append("l").append(i).append(": ");
        }
        good(text + "1", 1);
        fault(new ShareMonitor(), text + "x: 1", 4, text.length());
        fault(new ShareMonitor(), text + "l31: 1", 3, text.length());
        fault(new ShareMonitor(), text + "L: 1", 1, text.length());
        ShareMonitor m = Check.with("jump b a: 1 emit jump c b: 2 emit jump a c: d: 3 emit");
        m.run(100);
        Check.same("b first", m.out(0), 2);
        Check.same("then a", m.out(1), 1);
        Check.same("then c", m.out(2), 3);
        Check.same("behind the last one", m.state(1, 1), -7);
    }

    private static void manyInstructions() {
        String most = "1 ".repeat(256);
        good(most, 256);
        good(most + "z: # end", 256);
        fault(new ShareMonitor(), most + "2", 5, 512);
        fault(new ShareMonitor(), most + "jump", 5, 512);
        fault(new ShareMonitor(), most + "foo", 1, 512);
        fault(new ShareMonitor(), most + "z: z:", 3, 515);
        fault(new ShareMonitor(), "1 ".repeat(255) + "jump 5", 2, 515);
    }

    private static void missingLabels() {
        fault(new ShareMonitor(), "a: jump a zero b call c", 6, 15);
        fault(new ShareMonitor(), "jump ab abc: a: b:", 6, 5);
        fault(new ShareMonitor(), "", 7, 0);
        fault(new ShareMonitor(), "   ", 7, 3);
        fault(new ShareMonitor(), "a: b:", 7, 5);
    }

    private static void firstFaultCounts() {
        fault(new ShareMonitor(), "jump b foo", 1, 7);
        fault(new ShareMonitor(), "jump 1 foo", 2, 5);
        fault(new ShareMonitor(), "foo jump", 1, 0);
        fault(new ShareMonitor(), "jump b a: a:", 3, 10);
        fault(new ShareMonitor(), "a: a: foo", 3, 3);
        ShareMonitor m = new ShareMonitor();
        fault(m, "foo", 1, 0);
        Check.same("a good one behind it", Check.load(m, "1", 0), 1);
        Check.same("no fault then", m.fault(), 0);
    }

    private static void number(String text, int value) {
        ShareMonitor m = Check.with(text);
        m.tick();
        Check.same("number " + text, m.stack(1, 0), value);
    }

    private static void good(String text, int instructions) {
        ShareMonitor m = new ShareMonitor();
        Check.same("load of " + text, Check.load(m, text, 0), 1);
        Check.same("fault of " + text, m.fault(), 0);
        Check.same("instructions of " + text, m.count(9), instructions);
        Check.same("tape behind " + text, m.count(10), 0);
    }

    private static void fault(ShareMonitor m, String text, int code, int place) {
        int programs = m.count(8);
        Check.same("load of " + text, Check.load(m, text, 0), -1 - place);
        Check.same("fault of " + text, m.fault(), code);
        Check.same("programs behind " + text, m.count(8), programs);
        Check.same("tape behind " + text, m.count(10), 0);
    }
}
