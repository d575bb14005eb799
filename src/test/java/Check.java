import java.util.function.IntSupplier;

/** What the tests share: texts on the tape, and answers that are compared and told. */
final class Check {
    static final String NOTHING = "nothing";

    interface Call {
        void make();
    }

    private static int made = 0;
    private static int wrong = 0;
    private static int sentences = 0;
    private static int madeBefore = 0;
    private static String sentence = "";

    private Check() {
    }

    /** What follows looks at this sentence of the document; each one needs an answer of its own. */
    static void sentence(String words) {
        closeSentence();
        sentences++;
        sentence = words;
    }

    private static void closeSentence() {
        if (sentences > 0 && made == madeBefore) {
            blame("nothing was looked at");
        }
        madeBefore = made;
    }

    private static void blame(String text) {
        wrong++;
        System.out.println(sentence.isEmpty() ? text : "[" + sentence + "] " + text);
    }

    static void same(String what, long got, long want) {
        made++;
        if (got != want) {
            blame(what + " answered " + got + ", due is " + want);
        }
    }

    static void yes(String what, boolean got) {
        same(what, got ? 1 : 0, 1);
    }

    static void no(String what, boolean got) {
        same(what, got ? 1 : 0, 0);
    }

    /** The call throws an exception of exactly that class, and nothing that can be asked changes. */
    static void refused(String what, ShareMonitor m, Class<?> want, Call call) {
        String before = Picture.of(m);
        String got = thrownBy(call);
        made++;
        if (!got.equals(want.getName())) {
            blame(what + " threw " + got + ", due is " + want.getName());
        }
        if (!before.equals(Picture.of(m))) {
            blame(what + " threw and changed something");
        }
    }

    static String thrownBy(Call call) {
        try {
            call.make();
        } catch (RuntimeException e) {
            return e.getClass().getName();
        }
        return NOTHING;
    }

    static void text(String what, String got, String want) {
        made++;
        if (!got.equals(want)) {
            blame(what + " is " + got + ", due is " + want);
        }
    }

    /** Puts a text behind what is on the tape. */
    static void feed(ShareMonitor m, String text) {
        int before = m.count(10);
        int[] five = new int[5];
        for (int from = 0; from < text.length(); from += 20) {
            for (int i = 0; i < 20; i++) {
                int b = from + i < text.length() ? text.charAt(from + i) & 255 : ' ';
                five[i / 4] = five[i / 4] << 8 | b;
            }
            m.feed(five[0], five[1], five[2], five[3], five[4]);
        }
        m.end(before + text.length());
    }

    static int load(ShareMonitor m, String text, int level) {
        feed(m, text);
        return m.load(level);
    }

    static ShareMonitor with(String... texts) {
        ShareMonitor m = new ShareMonitor();
        for (String text : texts) {
            if (load(m, text, 0) < 1) {
                blame("this should be a program: " + text);
            }
        }
        return m;
    }

    /** The level's row has these processes and no more. */
    static void row(ShareMonitor m, int level, int... who) {
        for (int i = 0; i < who.length; i++) {
            int place = i;
            text("row " + level + " place " + i, answerOf(() -> m.ready(level, place)), "" + who[i]);
        }
        text("behind row " + level, answerOf(() -> m.ready(level, who.length)), "throws.IndexOutOfBoundsException");
    }

    /** The blocks are these: address, cells, holder of each. */
    static void blocks(ShareMonitor m, int... want) {
        same("blocks", m.count(4), want.length / 3);
        for (int i = 0; i < want.length && i / 3 < m.count(4); i++) {
            same("block " + i / 3 + " " + i % 3, m.block(i / 3, i % 3), want[i]);
        }
    }

    /** The console has these numbers and no more. */
    static void console(ShareMonitor m, int... want) {
        StringBuilder got = new StringBuilder();
        for (int i = 0; i < m.count(1); i++) {
            got.append(i == 0 ? "" : " ").append(m.out(i));
        }
        text("the console", got.toString(), joined(want));
    }

    /** The process's stack has these numbers, the lowest first, and no more. */
    static void numbers(ShareMonitor m, int p, int... want) {
        StringBuilder got = new StringBuilder();
        for (int i = 0; i < m.state(p, 5); i++) {
            got.append(i == 0 ? "" : " ").append(m.stack(p, i));
        }
        text("the stack of " + p, got.toString(), joined(want));
    }

    /** What state(p, 0) and on answer. */
    static void states(ShareMonitor m, int p, int... want) {
        for (int what = 0; what < want.length; what++) {
            same("state " + what + " of " + p, m.state(p, what), want[what]);
        }
    }

    /** The text's instructions leave these numbers, none being trapped. */
    static void leaves(String text, int... want) {
        ShareMonitor m = with(text);
        int size = m.count(9);
        same("busy ticks of " + text, m.run(size), size);
        same("done of " + text, m.state(1, 10), size);
        numbers(m, 1, want);
    }

    /** The text ends with this code when so many instructions are done, and nothing is left of it. */
    static void ends(String text, int code, int done) {
        ShareMonitor m = with(text);
        same("busy ticks of " + text, m.run(500), done + 1);
        states(m, 1, 7, code, 0, 0, 0, 0, 0, 0, 0, 0, done, 0, 0);
        same("ready of " + text, m.count(6), 0);
        same("ended of " + text, m.count(7), 1);
    }

    private static String joined(int[] numbers) {
        StringBuilder text = new StringBuilder();
        for (int i = 0; i < numbers.length; i++) {
            text.append(i == 0 ? "" : " ").append(numbers[i]);
        }
        return text.toString();
    }

    private static String answerOf(IntSupplier call) {
        try {
            return String.valueOf(call.getAsInt());
        } catch (RuntimeException e) {
            return "throws." + e.getClass().getSimpleName();
        }
    }

    /** Ends the test's main method: exit code 1 if an answer was wrong. */
    static void close(String name) {
        closeSentence();
        String told = sentences > 0 ? " for " + sentences + " sentences" : "";
        System.out.println(name + ": " + made + " answers looked at" + told + ", " + wrong + " wrong");
        if (wrong != 0 || made == 0) {
            System.exit(1);
        }
    }
}
