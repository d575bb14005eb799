import java.util.ArrayList;
import java.util.List;
import java.util.function.Supplier;

/** Random runs: each answer, and all that can be asked after it, as PlainModel has it. */
public final class ModelTest {
    private static final int RUNS = 6000;
    private static final String[] WORDS = ("dup drop swap over rot + - * / % and or xor not left right = < > @ ! return "
        + "alloc free give send recv wait kill self level yield sleep down up emit readkey exit").split(" ");
    // Pieces that leave the stack as it was, so that programs live long enough to meet one another.
    private static final String[] PIECES = {
        "A alloc drop", "A alloc dup emit free drop", "A A give drop", "3 alloc dup 7 swap ! dup @ emit drop",
        "A self send drop", "A P send drop", "recv drop emit", "readkey emit", "spawn N drop", "spawn N wait drop drop",
        "spawn N dup kill drop wait emit emit", "P wait drop emit", "P kill drop", "self emit", "2 level", "1 level",
        "0 level", "yield", "A sleep", "S down", "S up", "S up S down", "call N", "0 zero N", "1 zero N", "jump N",
        "A exit", "return", "call N 1 drop return", "B B * emit", "B B - B right emit", "B B left emit", "B 3 % emit", "B -3 / emit",
        "1 2 3 rot drop drop drop", "5 over drop drop", "A free drop", "0 free drop", "spawn N spawn N drop drop",
        "spawn N drop", "recv drop drop", "A alloc P give drop", "0 A alloc !", "S down A sleep S up"
    };

    private final Dice dice;
    private final ShareMonitor real = new ShareMonitor();
    private final PlainModel model = new PlainModel();
    private final List<String> calls = new ArrayList<>();

    private ModelTest(int seed) {
        dice = new Dice(seed);
    }

    public static void main(String[] args) {
        int runs = args.length > 0 ? Integer.parseInt(args[0]) : RUNS;
        for (int seed = 1; seed <= runs; seed++) {
            if (!new ModelTest(seed).goes()) {
                System.out.println("the run of seed " + seed);
                break;
            }
        }
        Check.close("ModelTest");
    }

    private boolean goes() {
        int steps = 20 + dice.below(40);
        for (int i = 0; i < steps; i++) {
            if (!step()) {
                calls.forEach(System.out::println);
                return false;
            }
        }
        return true;
    }

    private boolean step() {
        int p = dice.below(20) == 0 ? dice.below(20) - 3 : 1 + dice.below(dice.below(3) == 0 ? 12 : 4);
        int n = dice.below(30);
        switch (dice.below(14)) {
            case 0: case 1: case 2: return load();
            case 3: return same("quantum " + n, () -> real.quantum(n) + "", () -> model.quantum(n));
            case 4: return dice.below(2) == 0 || same("kill " + p, () -> real.kill(p) + "", () -> model.kill(p));
            case 5: return same("reap " + p, () -> real.reap(p) + "", () -> model.reap(p));
            case 6: return same("key " + p + " " + n, () -> real.key(p, n) + "", () -> model.key(p, n));
            case 7: return same("post " + p + " " + n, () -> real.post(p, n) + "", () -> model.post(p, n));
            case 8: case 9: return run(dice.below(300));
            default: return same("tick", () -> real.tick() + "", () -> model.tick() + "");
        }
    }

    private boolean load() {
        String text = dice.below(12) == 0 ? wildText() : program();
        int level = dice.below(3);
        return same("load " + level + ": " + text, () -> {
            Check.feed(real, text);
            String answer = answerOf(() -> real.load(level) + "");
            real.end(0);
            return answer;
        }, () -> model.load(text, level));
    }

    private boolean run(int n) {
        return same("run " + n, () -> real.run(n) + "", () -> {
            int busy = 0;
            for (int i = 0; i < n; i++) {
                busy += model.tick() == -1 ? 0 : 1;
            }
            return busy + "";
        });
    }

    private String program() {
        StringBuilder text = new StringBuilder(dice.below(4) == 0 ? "" : "9 8 7 6 ");
        int pieces = 3 + dice.below(12);
        int labels = 1 + dice.below(3);
        for (int i = 0; i < pieces; i++) {
            if (i < labels) {
                text.append((char) ('a' + i)).append(": ");
            }
            text.append(dice.below(40) == 0 ? WORDS[dice.below(WORDS.length)] : piece(labels)).append(' ');
        }
        return text.append(dice.below(3) == 0 ? "" : "jump a").toString();
    }

    private String piece(int labels) {
        StringBuilder text = new StringBuilder();
        for (String word : PIECES[dice.below(PIECES.length)].split(" ")) {
            switch (word) {
                case "A": text.append(dice.below(dice.below(4) == 0 ? 500 : 9) - 1); break;
                case "B": text.append(dice.next()); break;
                case "P": text.append(dice.below(8)); break;
                case "S": text.append(dice.below(2)); break;
                case "N": text.append((char) ('a' + dice.below(labels))); break;
                default: text.append(word);
            }
            text.append(' ');
        }
        return text.toString();
    }

    /** Mostly no program: words, names, labels, numbers, blanks and comments as they come. */
    private String wildText() {
        StringBuilder text = new StringBuilder();
        int words = dice.below(dice.below(5) == 0 ? 300 : 12);
        boolean tame = dice.below(2) == 0;
        for (int i = 0; i < words; i++) {
            switch (dice.below(tame ? 4 : 10)) {
                case 0: text.append("spawn ").append((char) ('a' + dice.below(9))); break;
                case 1: text.append((char) ('a' + dice.below(26))).append(tame ? dice.below(90) + "" : "").append(':'); break;
                case 2: text.append(dice.next()); break;
                case 3: text.append(WORDS[dice.below(WORDS.length)]); break;
                case 4: text.append("jump"); break;
                case 5: text.append("# 1 2"); break;
                case 6: text.append((long) dice.next() * 3); break;
                case 7: text.append("abcdefghijklmnop", 0, 1 + dice.below(15)).append(dice.below(2) == 0 ? ":" : ""); break;
                case 8: text.append((char) dice.below(256)); break;
                default: text.append(WORDS[dice.below(WORDS.length)]).append('#');
            }
            text.append("\t\n\r   ".charAt(dice.below(6)));
        }
        return text.toString();
    }

    private boolean same(String call, Supplier<String> ofReal, Supplier<String> ofModel) {
        calls.add(call);
        String got = answerOf(ofReal);
        String want = ofModel.get();
        Check.text(call, got, want);
        String gotPicture = Picture.of(real);
        String wantPicture = model.picture();
        boolean picture = gotPicture.equals(wantPicture);
        Check.yes("the picture behind " + call, picture);
        if (!picture) {
            System.out.println("got\n" + gotPicture + "\ndue\n" + wantPicture);
        }
        return picture && got.equals(want);
    }

    private static String answerOf(Supplier<String> call) {
        try {
            return call.get();
        } catch (RuntimeException e) {
            return "throws." + e.getClass().getSimpleName();
        }
    }

    /** Numbers that look random and are the same in every run. */
    private static final class Dice {
        private long state;

        Dice(int seed) {
            state = seed * 0x9E3779B97F4A7C15L + 1;
            next();
            next();
        }

        int next() {
            state = state * 6364136223846793005L + 1442695040888963407L;
            return (int) (state >> 32);
        }

        int below(int n) {
            return (int) ((next() & 0xffffffffL) * n >>> 32);
        }
    }
}
