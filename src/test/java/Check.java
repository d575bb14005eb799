/** What the tests share: texts on the tape, and answers that are compared and told. */
final class Check {
    static final String NOTHING = "nothing";

    interface Call {
        void make();
    }

    private static int made = 0;
    private static int wrong = 0;

    private Check() {
    }

    static void same(String what, long got, long want) {
        made++;
        if (got != want) {
            wrong++;
            System.out.println(what + " answered " + got + ", due is " + want);
        }
    }

    static void yes(String what, boolean got) {
        same(what, got ? 1 : 0, 1);
    }

    static void no(String what, boolean got) {
        same(what, got ? 1 : 0, 0);
    }

    /** The call throws an exception of exactly that class, and nothing that can be asked changes. */
    static void refused(String what, ShareMonitor m, Class<?> want, Call call) {
        String before = Picture.of(m);
        String got = thrownBy(call);
        made++;
        if (!got.equals(want.getName())) {
            wrong++;
            System.out.println(what + " threw " + got + ", due is " + want.getName());
        }
        if (!before.equals(Picture.of(m))) {
            wrong++;
            System.out.println(what + " threw and changed something");
        }
    }

    static String thrownBy(Call call) {
        try {
            call.make();
        } catch (RuntimeException e) {
            return e.getClass().getName();
        }
        return NOTHING;
    }

    static void text(String what, String got, String want) {
        made++;
        if (!got.equals(want)) {
            wrong++;
            System.out.println(what + " is " + got + ", due is " + want);
        }
    }

    /** Puts a text behind what is on the tape. */
    static void feed(ShareMonitor m, String text) {
        int before = m.count(10);
        int[] five = new int[5];
        for (int from = 0; from < text.length(); from += 20) {
            for (int i = 0; i < 20; i++) {
                int b = from + i < text.length() ? text.charAt(from + i) & 255 : ' ';
                five[i / 4] = five[i / 4] << 8 | b;
            }
            m.feed(five[0], five[1], five[2], five[3], five[4]);
        }
        m.end(before + text.length());
    }

    static int load(ShareMonitor m, String text, int level) {
        feed(m, text);
        return m.load(level);
    }

    static ShareMonitor with(String... texts) {
        ShareMonitor m = new ShareMonitor();
        for (String text : texts) {
            load(m, text, 0);
        }
        return m;
    }

    /** Ends the test's main method: exit code 1 if an answer was wrong. */
    static void close(String name) {
        System.out.println(name + ": " + made + " answers looked at, " + wrong + " wrong");
        if (wrong != 0 || made == 0) {
            System.exit(1);
        }
    }
}
