import java.util.ArrayList;
import java.util.Arrays;
import java.util.HashMap;
import java.util.List;
import java.util.Map;
import java.util.TreeMap;

/** A second reading of the document, with lists and maps, that shares nothing with ShareMonitor. */
final class PlainModel {
    private static final List<String> PLAIN = Arrays.asList(("dup drop swap over rot + - * / % and or xor not left right "
        + "= < > @ ! return alloc free give send recv wait kill self level yield sleep down up emit readkey exit")
        .split(" "));
    private static final List<String> NAMED = List.of("jump", "zero", "call", "spawn");
    private static final List<String> NEED_TWO = Arrays.asList("swap over + - * / % and or xor left right = < > ! give send"
        .split(" "));
    private static final List<String> NEED_NONE = List.of("jump", "call", "return", "spawn", "recv", "self", "yield",
        "readkey");

    /** It must wait: thrown out of an instruction that is not done. */
    private static final class Wait extends Exception {
        private static final long serialVersionUID = 1;
        private final int state;
        private final int what;

        Wait(int state, int what) {
            this.state = state;
            this.what = what;
        }
    }

    private static final class Trap extends Exception {
        private static final long serialVersionUID = 1;
        private final int code;

        Trap(int code) {
            this.code = code;
        }
    }

    private record Instruction(String word, int number) {
    }

    private static final class One {
        private int state;
        private int code;
        private int level;
        private int parent;
        private int next;
        private int done;
        private int waitsFor;
        private int inARow;
        private List<Instruction> program;
        private final List<Integer> stack = new ArrayList<>();
        private final List<Integer> returns = new ArrayList<>();
        private final List<int[]> box = new ArrayList<>();
        private final List<Integer> keys = new ArrayList<>();

        boolean alive() {
            return state != 0 && state != 7;
        }

        int pop() {
            return stack.remove(stack.size() - 1);
        }

        void put(int... numbers) throws Trap {
            if (stack.size() + numbers.length > 40) {
                throw new Trap(-3);
            }
            for (int number : numbers) {
                stack.add(number);
            }
        }
    }

    private final One[] all = new One[13];
    private final List<List<Integer>> rows = List.of(new ArrayList<>(), new ArrayList<>(), new ArrayList<>());
    private final int[] values = new int[8];
    private final List<List<Integer>> queues = new ArrayList<>();
    private final int[] cells = new int[1024];
    // Held blocks alone: address to cells and holder; what lies between is free.
    private final TreeMap<Integer, int[]> held = new TreeMap<>();
    private final List<Integer> console = new ArrayList<>();
    private int lost;
    private int clock;
    private int quantum = 4;
    private int fault;
    private int place;

    PlainModel() {
        for (int p = 1; p <= 12; p++) {
            all[p] = new One();
        }
        for (int k = 0; k < 8; k++) {
            queues.add(new ArrayList<>());
        }
    }

    // ---- texts

    /** The answer of load, or a text that names the exception. */
    String load(String text, int level) {
        int p = leastFree();
        if (p == 0) {
            return "throws.UnsupportedOperationException";
        }
        List<Instruction> program = parse(text);
        if (fault != 0) {
            return String.valueOf(-1 - place);
        }
        begin(p, program, level, 0, 0);
        return String.valueOf(p);
    }

    private List<Instruction> parse(String text) {
        fault = 0;
        List<Integer> starts = new ArrayList<>();
        List<String> words = new ArrayList<>();
        split(text, starts, words);
        Map<String, Integer> labels = new HashMap<>();
        List<String> words2 = new ArrayList<>();
        List<Integer> places = new ArrayList<>();
        List<String> names = new ArrayList<>();
        for (int i = 0; i < words.size(); i++) {
            String word = words.get(i);
            int start = starts.get(i);
            boolean label = word.endsWith(":") && isName(word.substring(0, word.length() - 1));
            if (!label && !isNumber(word) && !PLAIN.contains(word) && !NAMED.contains(word)) {
                return bad(1, start);
            }
            if (label) {
                String name = word.substring(0, word.length() - 1);
                if (labels.containsKey(name)) {
                    return bad(3, start);
                }
                if (labels.size() == 32) {
                    return bad(4, start);
                }
                labels.put(name, words2.size());
                continue;
            }
            if (words2.size() == 256) {
                return bad(5, start);
            }
            words2.add(word);
            places.add(-1);
            names.add("");
            if (NAMED.contains(word)) {
                i++;
                if (i >= words.size()) {
                    return bad(2, text.length());
                }
                if (!isName(words.get(i))) {
                    return bad(2, starts.get(i));
                }
                places.set(places.size() - 1, starts.get(i));
                names.set(names.size() - 1, words.get(i));
            }
        }
        List<Instruction> program = new ArrayList<>();
        for (int i = 0; i < words2.size(); i++) {
            String word = words2.get(i);
            if (places.get(i) >= 0 && !labels.containsKey(names.get(i))) {
                return bad(6, places.get(i));
            }
            if (places.get(i) >= 0) {
                program.add(new Instruction(word, labels.get(names.get(i))));
            } else if (isNumber(word)) {
                program.add(new Instruction("number", new java.math.BigInteger(word).intValueExact()));
            } else {
                program.add(new Instruction(word, 0));
            }
        }
        return program.isEmpty() ? bad(7, text.length()) : program;
    }

    private List<Instruction> bad(int code, int at) {
        fault = code;
        place = at;
        return null;
    }

    private static void split(String text, List<Integer> starts, List<String> words) {
        int at = 0;
        while (at < text.length()) {
            char c = text.charAt(at);
            if ("\t\n\r ".indexOf(c) >= 0) {
                at++;
            } else if (c == '#') {
                int line = text.indexOf('\n', at);
                at = line < 0 ? text.length() : line;
            } else {
                int end = at;
                while (end < text.length() && "\t\n\r ".indexOf(text.charAt(end)) < 0) {
                    end++;
                }
                starts.add(at);
                words.add(text.substring(at, end));
                at = end;
            }
        }
    }

    private static boolean isName(String word) {
        return word.matches("[a-z][a-z0-9]{0,11}") && !PLAIN.contains(word) && !NAMED.contains(word);
    }

    private static boolean isNumber(String word) {
        return word.matches("-?[0-9]+") && new java.math.BigInteger(word).bitLength() <= 31;
    }

    // ---- processes

    private int leastFree() {
        for (int p = 1; p <= 12; p++) {
            if (all[p].state == 0) {
                return p;
            }
        }
        return 0;
    }

    private void begin(int p, List<Instruction> program, int level, int parent, int next) {
        One one = new One();
        all[p] = one;
        one.program = program;
        one.level = level;
        one.parent = parent;
        one.next = next;
        ready(p);
    }

    private void ready(int p) {
        all[p].state = 1;
        all[p].waitsFor = 0;
        all[p].inARow = 0;
        rows.get(all[p].level).add(p);
    }

    private void leave(int p, int state, int what) {
        for (List<Integer> row : rows) {
            row.remove(Integer.valueOf(p));
        }
        for (List<Integer> row : queues) {
            row.remove(Integer.valueOf(p));
        }
        all[p].state = state;
        all[p].waitsFor = what;
        all[p].inARow = 0;
    }

    private void last(int p) {
        leave(p, 1, 0);
        ready(p);
    }

    private void end(int p, int code) {
        One one = all[p];
        held.values().removeIf(block -> block[1] == p);
        one.box.clear();
        one.keys.clear();
        leave(p, 7, 0);
        for (int c = 1; c <= 12; c++) {
            if (all[c].parent == p && all[c].alive()) {
                all[c].parent = 0;
            } else if (all[c].parent == p) {
                all[c] = new One();
            }
        }
        one.code = code;
        one.stack.clear();
        one.returns.clear();
        one.next = 0;
        if (one.parent != 0 && all[one.parent].state == 3 && all[one.parent].waitsFor == p) {
            ready(one.parent);
        }
    }

    int tick() {
        clock++;
        for (int p = 1; p <= 12; p++) {
            if (all[p].state == 5 && all[p].waitsFor == clock) {
                ready(p);
            }
        }
        for (List<Integer> row : rows) {
            if (!row.isEmpty()) {
                int p = row.get(0);
                turn(p);
                return p;
            }
        }
        return -1;
    }

    private void turn(int p) {
        One one = all[p];
        int next = one.next;
        List<Integer> before = new ArrayList<>(one.stack);
        try {
            if (next >= one.program.size()) {
                throw new Trap(-7);
            }
            Instruction i = one.program.get(next);
            int need = NEED_TWO.contains(i.word) ? 2 : i.word.equals("rot") ? 3
                : NEED_NONE.contains(i.word) || i.word.equals("number") ? 0 : 1;
            if (one.stack.size() < need) {
                throw new Trap(-2);
            }
            one.next = next + 1;
            if (i.word.equals("exit")) {
                end(p, one.pop());
                return;
            }
            boolean placed = act(p, one, i);
            one.done++;
            if (!placed) {
                one.inARow++;
                if (one.inARow >= quantum) {
                    last(p);
                }
            }
        } catch (Wait w) {
            one.next = next;
            one.stack.clear();
            one.stack.addAll(before);
            leave(p, w.state, w.what);
        } catch (Trap t) {
            end(p, t.code);
        }
    }

    /** Whether the process's place in the rows is settled by the instruction. */
    private boolean act(int p, One one, Instruction i) throws Wait, Trap {
        int a;
        int b;
        switch (i.word) {
            case "number": one.put(i.number); break;
            case "dup": a = one.pop(); one.put(a, a); break;
            case "drop": one.pop(); break;
            case "swap": b = one.pop(); a = one.pop(); one.put(b, a); break;
            case "over": b = one.pop(); a = one.pop(); one.put(a, b, a); break;
            case "rot": int c = one.pop(); b = one.pop(); a = one.pop(); one.put(b, c, a); break;
            case "not": one.put(-1 - one.pop()); break;
            case "jump": one.next = i.number; break;
            case "zero": one.next = one.pop() == 0 ? i.number : one.next; break;
            case "call":
                if (one.returns.size() == 20) {
                    throw new Trap(-6);
                }
                one.returns.add(one.next);
                one.next = i.number;
                break;
            case "return":
                if (one.returns.isEmpty()) {
                    throw new Trap(-6);
                }
                one.next = one.returns.remove(one.returns.size() - 1);
                break;
            case "self": one.put(p); break;
            case "emit":
                a = one.pop();
                if (console.size() < 2000) {
                    console.add(a);
                } else {
                    lost++;
                }
                break;
            case "readkey":
                if (one.keys.isEmpty()) {
                    throw new Wait(4, 0);
                }
                one.put(one.keys.get(0));
                one.keys.remove(0);
                break;
            case "recv":
                if (one.box.isEmpty()) {
                    throw new Wait(2, 0);
                }
                one.put(one.box.get(0)[0], one.box.get(0)[1]);
                one.box.remove(0);
                break;
            case "send": b = one.pop(); a = one.pop(); one.put(send(p, b, a)); break;
            case "spawn": case "wait": case "kill": family(p, one, i); break;
            case "@": case "!": case "alloc": case "free": case "give": memory(p, one, i.word); break;
            case "yield": case "level": case "sleep": case "down": case "up": return place(p, one, i.word);
            default: b = one.pop(); a = one.pop(); one.put(sum(i.word, a, b)); break;
        }
        return false;
    }

    private static int sum(String word, long a, long b) throws Trap {
        switch (word) {
            case "+": return (int) (a + b);
            case "-": return (int) (a - b);
            case "*": return (int) (a * b);
            case "/": case "%":
                if (b == 0) {
                    throw new Trap(-4);
                }
                return (int) (word.equals("/") ? a / b : a % b);
            case "and": return (int) (a & b);
            case "or": return (int) (a | b);
            case "xor": return (int) (a ^ b);
            case "left": return (int) (a << Math.floorMod(b, 32));
            case "right": return (int) Math.floorDiv(a, 1L << Math.floorMod(b, 32));
            case "=": return a == b ? 1 : 0;
            case "<": return a < b ? 1 : 0;
            case ">": return a > b ? 1 : 0;
            default: throw new Error(word);
        }
    }

    private boolean isAlive(int p) {
        return p >= 1 && p <= 12 && all[p].alive();
    }

    private int send(int from, int to, int number) {
        if (!isAlive(to)) {
            return -1;
        }
        if (all[to].box.size() == 8) {
            return -2;
        }
        all[to].box.add(new int[] {number, from});
        if (all[to].state == 2) {
            ready(to);
        }
        return 0;
    }

    private void family(int p, One one, Instruction i) throws Wait, Trap {
        if (i.word.equals("spawn")) {
            int fresh = leastFree();
            one.put(fresh == 0 ? -1 : fresh);
            if (fresh != 0) {
                begin(fresh, one.program, one.level, p, i.number);
            }
            return;
        }
        int c = one.pop();
        boolean child = c >= 1 && c <= 12 && all[c].parent == p;
        boolean alive = child && all[c].alive();
        if (i.word.equals("kill")) {
            if (alive) {
                end(c, -1);
            }
            one.put(alive ? 0 : -1);
        } else if (alive) {
            throw new Wait(3, c);
        } else if (child) {
            one.put(all[c].code, 1);
            all[c] = new One();
        } else {
            one.put(0, 0);
        }
    }

    private void memory(int p, One one, String word) throws Trap {
        int top = one.pop();
        if (word.equals("@") || word.equals("!")) {
            Map.Entry<Integer, int[]> block = held.floorEntry(top);
            if (block == null || block.getValue()[1] != p || top >= block.getKey() + block.getValue()[0]) {
                throw new Trap(-5);
            }
            if (word.equals("@")) {
                one.put(cells[top]);
            } else {
                cells[top] = one.pop();
            }
        } else if (word.equals("alloc")) {
            one.put(alloc(p, top));
        } else if (word.equals("free")) {
            boolean own = held.containsKey(top) && held.get(top)[1] == p;
            if (own) {
                held.remove(top);
            }
            one.put(own ? 0 : -1);
        } else {
            int address = one.pop();
            boolean own = held.containsKey(address) && held.get(address)[1] == p && isAlive(top);
            if (own) {
                held.get(address)[1] = top;
            }
            one.put(own ? 0 : -1);
        }
    }

    private int alloc(int p, int n) {
        if (n < 1) {
            return -1;
        }
        int from = 0;
        for (Map.Entry<Integer, int[]> block : held.entrySet()) {
            if (block.getKey() - from >= n) {
                break;
            }
            from = block.getKey() + block.getValue()[0];
        }
        if (n > 1024 - from) {
            return -1;
        }
        held.put(from, new int[] {n, p});
        Arrays.fill(cells, from, from + n, 0);
        return from;
    }

    private boolean place(int p, One one, String word) throws Trap {
        int a = word.equals("yield") ? 0 : one.pop();
        if ((word.equals("down") || word.equals("up")) && (a < 0 || a > 7)) {
            throw new Trap(-8);
        }
        if (word.equals("level") && (a < 0 || a > 2)) {
            throw new Trap(-9);
        }
        if (word.equals("up")) {
            if (queues.get(a).isEmpty()) {
                values[a] = Math.min(values[a] + 1, 1000000);
            } else {
                int first = queues.get(a).remove(0);
                ready(first);
            }
            return false;
        }
        if (word.equals("down") && values[a] > 0) {
            values[a]--;
            return false;
        }
        if (word.equals("down")) {
            leave(p, 6, a);
            queues.get(a).add(p);
        } else if (word.equals("sleep") && a >= 1) {
            leave(p, 5, (int) Math.min(Integer.MAX_VALUE, (long) clock + a));
        } else {
            leave(p, 1, 0);
            one.level = word.equals("level") ? a : one.level;
            ready(p);
        }
        return true;
    }

    // ---- calls from outside

    String quantum(int n) {
        if (n < 1 || n > 100) {
            return "throws.IllegalArgumentException";
        }
        int before = quantum;
        quantum = n;
        return String.valueOf(before);
    }

    String kill(int p) {
        if (p < 1 || p > 12) {
            return "throws.IndexOutOfBoundsException";
        }
        boolean was = all[p].alive();
        if (was) {
            end(p, -1);
        }
        return String.valueOf(was);
    }

    String reap(int p) {
        if (p < 1 || p > 12) {
            return "throws.IndexOutOfBoundsException";
        }
        if (all[p].state != 7 || all[p].parent != 0) {
            return "throws.IllegalStateException";
        }
        int code = all[p].code;
        all[p] = new One();
        return String.valueOf(code);
    }

    String key(int p, int c) {
        if (p < 1 || p > 12) {
            return "throws.IndexOutOfBoundsException";
        }
        if (!all[p].alive()) {
            return "throws.IllegalStateException";
        }
        if (all[p].keys.size() == 8) {
            return "false";
        }
        all[p].keys.add(c);
        if (all[p].state == 4) {
            ready(p);
        }
        return "true";
    }

    String post(int p, int a) {
        if (p < 1 || p > 12) {
            return "throws.IndexOutOfBoundsException";
        }
        int sent = send(0, p, a);
        return sent == -1 ? "throws.IllegalStateException" : String.valueOf(sent == 0);
    }

    // ---- the picture, in the form of Picture.of with an empty tape

    String picture() {
        List<int[]> blocks = new ArrayList<>();
        int from = 0;
        int free = 0;
        for (Map.Entry<Integer, int[]> block : held.entrySet()) {
            if (block.getKey() > from) {
                blocks.add(new int[] {from, block.getKey() - from, 0});
                free += block.getKey() - from;
            }
            blocks.add(new int[] {block.getKey(), block.getValue()[0], block.getValue()[1]});
            from = block.getKey() + block.getValue()[0];
        }
        if (from < 1024) {
            blocks.add(new int[] {from, 1024 - from, 0});
            free += 1024 - from;
        }
        StringBuilder text = new StringBuilder("fault " + fault);
        for (int count : counts(free, blocks.size())) {
            text.append(" c").append(count);
        }
        for (int p = 1; p <= 12; p++) {
            drawProcess(p, text);
        }
        text.append("\nrows");
        for (List<Integer> row : rows) {
            text.append(" /");
            row.forEach(p -> text.append(' ').append(p));
        }
        text.append("\nmemory");
        blocks.forEach(b -> text.append(' ').append(b[0]).append('+').append(b[1]).append(':').append(b[2]));
        for (int address = 0; address < 1024; address++) {
            if (cells[address] != 0) {
                text.append(' ').append(address).append('=').append(cells[address]);
            }
        }
        for (int k = 0; k < 8; k++) {
            text.append("\nsemaphore ").append(values[k]);
            queues.get(k).forEach(p -> text.append(' ').append(p));
        }
        text.append("\nconsole");
        console.forEach(number -> text.append(' ').append(number));
        return text.toString();
    }

    private int[] counts(int free, int blocks) {
        int alive = 0;
        int ready = 0;
        int ended = 0;
        List<List<Instruction>> programs = new ArrayList<>();
        int instructions = 0;
        for (int p = 1; p <= 12; p++) {
            One one = all[p];
            alive += one.alive() ? 1 : 0;
            ready += one.state == 1 ? 1 : 0;
            ended += one.state == 7 ? 1 : 0;
            if (one.program != null && programs.stream().noneMatch(known -> known == one.program)) {
                programs.add(one.program);
                instructions += one.program.size();
            }
        }
        return new int[] {clock, console.size(), lost, free, blocks, alive, ready, ended, programs.size(), instructions, 0};
    }

    private void drawProcess(int p, StringBuilder text) {
        One one = all[p];
        int cellsHeld = held.values().stream().mapToInt(block -> block[1] == p ? block[0] : 0).sum();
        int[] state = {one.state, one.code, one.level, one.parent, one.next, one.stack.size(), one.returns.size(),
            one.box.size(), one.keys.size(), cellsHeld, one.done, one.waitsFor, one.inARow};
        text.append("\nprocess ").append(p).append(':');
        for (int value : state) {
            text.append(' ').append(value);
        }
        text.append(" stack");
        one.stack.forEach(number -> text.append(' ').append(number));
        text.append(" box");
        one.box.forEach(m -> text.append(' ').append(m[0]).append('<').append(m[1]));
    }
}
