import java.util.Arrays;

/** The edges of texts: each sentence of the document's first part that names one, in its order. */
public final class TextEdgeTest {
    private static final String[] WITH_NAME = {"jump", "zero", "call", "spawn"};
    private static final String[] OTHERS = ("dup drop swap over rot + - * / % and or xor not left right = < > @ ! return "
        + "alloc free give send recv wait kill self level yield sleep down up emit readkey exit").split(" ");

    public static void main(String[] args) {
        tapeSize();
        blanks();
        commentEnds();
        commentBegins();
        wordEnds();
        numberRange();
        nameBytes();
        nameLength();
        wordsOfTheirOwn();
        listedWords();
        labelsAreNoInstructions();
        reservedWords();
        firstFromTheLeft();
        unknownWord();
        noName();
        noNameAtTheEnd();
        toldAlready();
        manyLabels();
        manyInstructions();
        orderAtOneWord();
        missingLabel();
        noInstruction();
        Check.close("TextEdgeTest");
    }

    private static void tapeSize() {
        Check.sentence("THE TAPE has up to 8192 bytes, places counted from 0");
        good(" ".repeat(8191) + "7", 1);
        good("7" + " ".repeat(8191), 1);
        fault("x" + " ".repeat(8191), 1, 0);
        fault(" ".repeat(8191) + "x", 1, 8191);
        fault(" ".repeat(8192), 7, 8192);
        fault(" ".repeat(8188) + "jump", 2, 8192);
        number("0".repeat(8191) + "7", 7);
        number("-" + "0".repeat(8181) + "2147483648", Integer.MIN_VALUE);
        fault("9".repeat(8192), 1, 0);
        fault("a".repeat(8191) + ":", 1, 0);
        fault("1" + "#".repeat(8191), 1, 0);
    }

    private static void blanks() {
        Check.sentence("BLANKS (9, 10, 13, 32)");
        for (int b = 0; b < 256; b++) {
            String text = "1" + (char) b + "2";
            if (b == 9 || b == 10 || b == 13 || b == 32) {
                good(text, 2);
                good((char) b + text + (char) b, 2);
            } else if (b >= '0' && b <= '9') {
                good(text, 1);
            } else {
                fault(text, 1, 0);
            }
        }
        good("1 \t\r\n\n\r\t 2", 2);
    }

    private static void commentEnds() {
        Check.sentence("comments (# to before the next byte 10, or the end)");
        good("1 # foo \r foo \t foo", 1);
        good("1 # foo \n2", 2);
        good("1 #\n2", 2);
        good("1 #", 1);
        good("1\n#\n#\n", 1);
        good("1 ## # foo\n2", 2);
        good("1 # foo " + (char) 0 + (char) 255 + "\n2", 2);
        fault("1 # foo \r 2 \nfoo", 1, 13);
        fault("1 # foo \n\nfoo", 1, 10);
        ShareMonitor m = new ShareMonitor();
        Check.feed(m, "1 # foo\n2");
        m.end(7);
        Check.same("a comment that is cut", m.load(0), 1);
        Check.same("the 2 is gone", m.count(9), 1);
    }

    private static void commentBegins() {
        Check.sentence("a # begins a comment only where a word could begin");
        fault("1#", 1, 0);
        fault("1#2", 1, 0);
        fault("dup# foo", 1, 0);
        fault("-# foo", 1, 0);
        fault("a:# foo", 1, 0);
        fault("a: jump a# foo", 2, 8);
        fault("a: jump# a", 1, 3);
        good("#1 foo\n1\t#foo\n2\r#foo\n3\n#foo", 3);
    }

    private static void wordEnds() {
        Check.sentence("WORDS: rows of other bytes");
        fault("dupdrop", 1, 0);
        fault("1dup", 1, 0);
        fault("1+", 1, 0);
        fault("1,2", 1, 0);
        fault("a:1", 1, 0);
        fault("a:b:", 1, 0);
        good("1 2 + -", 4);
    }

    private static void numberRange() {
        Check.sentence("a NUMBER: digits, or - and digits (-2147483648 .. 2147483647)");
        number("2147483647", Integer.MAX_VALUE);
        number("-2147483648", Integer.MIN_VALUE);
        number("-2147483647", -Integer.MAX_VALUE);
        number("0", 0);
        number("-0", 0);
        number("-00", 0);
        number("0002147483647", Integer.MAX_VALUE);
        number("-0002147483648", Integer.MIN_VALUE);
        for (String text : new String[] {"2147483648", "-2147483649", "2147483650", "-2147483650", "3000000000",
            "-3000000000", "4294967295", "4294967296", "9223372036854775807", "9223372036854775808", "-9223372036854775808",
            "18446744073709551616", "-18446744073709551615", "00002147483648", "21474836470", "99999999999999999999999"}) {
            fault(text, 1, 0);
        }
        for (String text : new String[] {"--1", "-+1", "+1", "1-", "1-1", "-1-", "1.", "-a", "1a", "1e1", "1/", "1:", "-:"}) {
            fault(text, 1, 0);
        }
        good("-", 1);
        good("- 1", 2);
    }

    private static void nameBytes() {
        Check.sentence("a NAME: a letter a .. z, then letters a .. z, digits");
        for (int b = 0; b < 256; b++) {
            boolean letter = b >= 'a' && b <= 'z';
            boolean digit = b >= '0' && b <= '9';
            boolean between = b == 9 || b == 10 || b == 13 || b == 32 || b == '#';
            char c = (char) b;
            if (letter) {
                good(c + ": jump " + c, 1);
                good(c + "x: jump " + c + "x", 1);
            } else if (!between) {
                fault(c + "x: 1", 1, 0);
                fault("jump " + c + "x", 2, 5);
            }
            if (letter || digit) {
                good("x" + c + ": jump x" + c, 1);
                good("x" + c + "y: jump x" + c + "y", 1);
            } else if (!between) {
                fault("x" + c + "y: 1", 1, 0);
                fault("jump x" + c + "y", 2, 5);
            }
        }
        fault(": 1", 1, 0);
        good("a0: z9: 1 jump z9 jump a0", 3);
    }

    private static void nameLength() {
        Check.sentence("12 bytes at most");
        for (String first : WITH_NAME) {
            good("abcdefghijkl: " + first + " abcdefghijkl", 1);
            fault(first + " abcdefghijklm", 2, first.length() + 1);
            fault(first + " abcdefghijkl0 1", 2, first.length() + 1);
            good("a: " + first + " a", 1);
        }
        good("z12345678901: 1", 1);
        fault("1 abcdefghijklm: 1", 1, 2);
        fault("1 z123456789012: 1", 1, 2);
        // Names that differ in their twelfth byte alone are two.
        good("abcdefghijkl: abcdefghijkm: 1", 1);
    }

    private static void wordsOfTheirOwn() {
        Check.sentence("jump, zero, call, spawn, each with a NAME behind it (a word of its own)");
        for (String first : WITH_NAME) {
            good("a: " + first + "\na", 1);
            good("a: " + first + "\t\r\n # a comment\n\n# one more\n a", 1);
            good("a: " + first + " a " + first + " a", 2);
            fault("a: 1 " + first + ":a", 1, 5);
            fault("a: 1 " + first + "#a", 1, 5);
            // One word that begins like it: a NAME that stands where no name may.
            fault("a: 1 " + first + "a", 1, 5);
        }
    }

    private static void listedWords() {
        Check.sentence("or one of dup drop swap over rot + - * / % and or xor not left right = < > @ ! return ..");
        for (String word : OTHERS) {
            good(word, 1);
            fault("1 " + word + word, 1, 2);
            if (word.length() > 1) {
                unlisted(word.substring(1));
                unlisted(word.substring(0, word.length() - 1));
                unlisted(word.toUpperCase());
            }
        }
    }

    private static void unlisted(String word) {
        // "up" is left of dup and "or" of xor: these are listed themselves.
        if (!Arrays.asList(OTHERS).contains(word)) {
            fault("1 " + word, 1, 2);
        }
    }

    private static void labelsAreNoInstructions() {
        Check.sentence("Each is an INSTRUCTION, from number 0 on, but labels, which stand for the number of the next one");
        ShareMonitor m = Check.with("a: b: 1 c: d: 2 e: 3 spawn a spawn b spawn c spawn d spawn e spawn f f:");
        m.quantum(100);
        m.run(9);
        Check.same("instructions", m.count(9), 9);
        int[] next = {0, 0, 1, 1, 2, 9};
        for (int i = 0; i < next.length; i++) {
            Check.same("label " + i, m.state(2 + i, 4), next[i]);
        }
        good("1 ".repeat(256) + "a: b:", 256);
    }

    private static void reservedWords() {
        Check.sentence("These words, and jump, zero, call, spawn, are no names");
        for (String word : OTHERS) {
            noNameAtAll(word);
        }
        for (String word : WITH_NAME) {
            noNameAtAll(word);
        }
        for (String near : new String[] {"dups", "du", "o", "orr", "jumps", "jum", "exit1", "u", "ups", "x", "zeroa"}) {
            good(near + ": jump " + near, 1);
        }
    }

    private static void noNameAtAll(String word) {
        fault("1 " + word + ": 1", 1, 2);
        for (String first : WITH_NAME) {
            fault(first + " " + word, 2, first.length() + 1);
        }
    }

    private static void firstFromTheLeft() {
        Check.sentence("FAULTS have codes, the first one met from the left counts");
        fault("foo jump 1", 1, 0);
        fault("jump 1 foo", 2, 5);
        fault("a: a: foo", 3, 3);
        fault("foo a: a:", 1, 0);
        fault(labels(32) + "x: foo", 4, labels(32).length());
        fault("foo " + labels(33), 1, 0);
        fault("1 ".repeat(257) + "foo", 5, 512);
        fault("1 ".repeat(256) + "foo 1", 1, 512);
        fault("1 ".repeat(256) + "a: a: 1", 3, 515);
        // A label that is missing, left of all, is looked at when there is none of the others.
        fault("jump b jump 1", 2, 12);
        fault("jump b a: a:", 3, 10);
        fault("jump b " + labels(33), 4, 7 + labels(32).length());
        fault("jump b " + "1 ".repeat(256), 5, 7 + 510);
        fault("jump b foo", 1, 7);
    }

    private static void unknownWord() {
        Check.sentence("1 at its first byte: a word that is none of these");
        fault("foo", 1, 0);
        fault(" foo", 1, 1);
        fault("#\nfoo", 1, 2);
        fault("1 2 + foo 3", 1, 6);
        fault("a: 1 a", 1, 5);
        fault("a: jump a a", 1, 10);
        fault("\0", 1, 0);
        fault("\u00ff", 1, 0);
        fault("Dup", 1, 0);
    }

    private static void noName() {
        Check.sentence("2 at the word behind jump, zero, call, spawn that is no NAME");
        for (String first : WITH_NAME) {
            int at = first.length() + 3;
            for (String word : new String[] {"1", "-1", "a:", "A", "dup", "+", "jump", "1a", "a-b", "2147483648", "a#", ":",
                "\u00e9", "abcdefghijklm"}) {
                fault(first + " \n " + word + " a", 2, at);
            }
        }
    }

    private static void noNameAtTheEnd() {
        Check.sentence("2 (or at the tape's length)");
        for (String first : WITH_NAME) {
            fault(first, 2, first.length());
            fault("1 " + first, 2, first.length() + 2);
            fault(first + "   ", 2, first.length() + 3);
            fault(first + " \n", 2, first.length() + 2);
            fault(first + " # a", 2, first.length() + 4);
            fault(first + " # a\n", 2, first.length() + 5);
        }
        ShareMonitor m = new ShareMonitor();
        Check.feed(m, "a: 1 jump a");
        m.end(9);
        Check.same("the name is cut off", m.load(0), -10);
        Check.same("its code", m.fault(), 2);
    }

    private static void toldAlready() {
        Check.sentence("3 at a label that is told already");
        fault("a: 1 a:", 3, 5);
        fault("a: a: 1", 3, 3);
        fault("a: b: 1 b: a:", 3, 8);
        fault(labels(32) + "1 l0: 1", 3, labels(32).length() + 2);
        fault("abcdefghijkl: 1 abcdefghijkl:", 3, 16);
        good("a: aa: aaa: 1 a1: a11:", 1);
        ShareMonitor m = Check.with("a: 1");
        Check.same("a label of another program", Check.load(m, "a: 1", 0), 2);
    }

    private static void manyLabels() {
        Check.sentence("4 at the 33rd label");
        good(labels(31) + "1", 1);
        good(labels(32) + "1", 1);
        good(labels(32) + "1 jump l0 jump l31", 3);
        fault(labels(33) + "1", 4, labels(32).length());
        fault("1 " + labels(32) + "1 z: 1", 4, labels(32).length() + 4);
        ShareMonitor m = Check.with(labels(32) + "1");
        Check.same("each program has 32", Check.load(m, labels(32) + "1", 0), 2);
    }

    private static void manyInstructions() {
        Check.sentence("5 at the first byte of the 257th instruction");
        good("1 ".repeat(255), 255);
        good("1 ".repeat(256), 256);
        good("1 ".repeat(255) + "a: jump a b: # end", 256);
        fault("1 ".repeat(256) + "23 4", 5, 512);
        fault("1 ".repeat(256) + "  dup", 5, 514);
        fault("1 ".repeat(256) + "a: dup", 5, 515);
        for (String first : WITH_NAME) {
            fault("a: " + "1 ".repeat(256) + first + " a", 5, 515);
            fault("1 ".repeat(256) + first + " 5", 5, 512);
            fault("1 ".repeat(256) + first, 5, 512);
        }
        good("a: " + "jump a ".repeat(256), 256);
        fault("a: " + "jump a ".repeat(257), 5, 3 + 7 * 256);
        ShareMonitor m = Check.with("1 ".repeat(256));
        Check.same("each program has 256", Check.load(m, "1 ".repeat(256), 0), 2);
        Check.same("all", m.count(9), 512);
    }

    private static void orderAtOneWord() {
        Check.sentence("At one word these in this order");
        fault(labels(32) + "l7: 1", 3, labels(32).length());
        fault(labels(32) + "L: 1", 1, labels(32).length());
        fault("1 ".repeat(256) + "foo", 1, 512);
        fault("1 ".repeat(256) + "2147483648", 1, 512);
    }

    private static void missingLabel() {
        Check.sentence("6 at the first NAME behind jump, zero, call, spawn that is no label");
        for (String first : WITH_NAME) {
            fault(first + " a", 6, first.length() + 1);
            fault("a: " + first + " a " + first + " b " + first + " c", 6, 2 * first.length() + 7);
            good(first + " a 1 a:", 2);
        }
        fault("jump ab a: b: abc: 1", 6, 5);
        fault("jump abcdefghijkl abcdefghijk: 1", 6, 5);
        ShareMonitor m = Check.with("a: 1");
        Check.same("a label of another program is none", Check.load(m, "jump a", 0), -6);
        Check.same("its code", m.fault(), 6);
        Check.same("nor one of a text with a fault", Check.load(m, "b: foo", 0), -4);
        Check.same("nor one of a text with a fault", Check.load(m, "jump b", 0), -6);
    }

    private static void noInstruction() {
        Check.sentence("then 7 at the tape's length: there is no instruction");
        fault("", 7, 0);
        fault(" ", 7, 1);
        fault("# 1", 7, 3);
        fault("# 1\n", 7, 4);
        fault("a:", 7, 2);
        fault(labels(32), 7, labels(32).length());
        ShareMonitor m = Check.with("1 2 3");
        Check.same("the tape is empty behind a load", m.load(0), -1);
        Check.same("its code", m.fault(), 7);
    }

    private static String labels(int n) {
        StringBuilder text = new StringBuilder();
        for (int i = 0; i < n; i++) {
            text.append('l').append(i).append(": ");
        }
        return text.toString();
    }

    /** Loads a text of any length up to the whole tape. */
    private static int load(ShareMonitor m, String text) {
        // The last twenty bytes of a long one come by a feed that fills the tape without blanks behind.
        int split = text.length() > 8180 ? text.length() - 20 : text.length();
        Check.feed(m, text.substring(0, split));
        Check.feed(m, text.substring(split));
        return m.load(0);
    }

    private static void good(String text, int instructions) {
        ShareMonitor m = new ShareMonitor();
        Check.same("load of " + tell(text), load(m, text), 1);
        Check.same("fault of " + tell(text), m.fault(), 0);
        Check.same("instructions of " + tell(text), m.count(9), instructions);
        Check.same("tape behind " + tell(text), m.count(10), 0);
    }

    private static void number(String text, int value) {
        ShareMonitor m = new ShareMonitor();
        Check.same("load of " + tell(text), load(m, text), 1);
        m.tick();
        Check.numbers(m, 1, value);
    }

    private static void fault(String text, int code, int place) {
        ShareMonitor m = new ShareMonitor();
        Check.same("load of " + tell(text), load(m, text), -1 - place);
        Check.same("fault of " + tell(text), m.fault(), code);
        Check.same("processes behind " + tell(text), m.count(5), 0);
        Check.same("programs behind " + tell(text), m.count(8), 0);
        Check.same("tape behind " + tell(text), m.count(10), 0);
    }

    private static String tell(String text) {
        return text.length() < 60 ? text : text.substring(0, 20) + " .. " + text.substring(text.length() - 20);
    }
}
