import java.util.Arrays;

/**
 * One machine for many users. The face checks what it is asked; the tape is read by Reader,
 * Desk keeps the processes and what they share, and Worker does their instructions.
 */
public final class ShareMonitor {

    public static final int NONE = -1;

    private static final int TAPE_BYTES = 8192;
    private static final int FEED_BYTES = 20;
    private static final int NAME_BYTES = 12;
    private static final int LABELS = 32;
    private static final int INSTRUCTIONS = 256;

    private static final int PROCESSES = 12;
    private static final int LEVELS = 3;
    private static final int STACK_ROOM = 40;
    private static final int RETURNS_ROOM = 20;
    private static final int BOX_ROOM = 8;
    private static final int CELLS = 1024;
    private static final int SEMAPHORES = 8;
    private static final int SEMAPHORE_TOP = 1000000;
    private static final int CONSOLE_ROOM = 2000;
    private static final int CLOCK_TOP = 2147483647;
    private static final int QUANTUM_AT_FIRST = 4;
    private static final int QUANTUM_TOP = 100;
    private static final int RUN_TOP = 5000;

    private static final int FREE = 0;
    private static final int READY = 1;
    private static final int FOR_MESSAGE = 2;
    private static final int FOR_END = 3;
    private static final int FOR_KEY = 4;
    private static final int SLEEPS = 5;
    private static final int FOR_SEMAPHORE = 6;
    private static final int ENDED = 7;

    private static final int FAULT_WORD = 1;
    private static final int FAULT_NO_NAME = 2;
    private static final int FAULT_TOLD_ALREADY = 3;
    private static final int FAULT_LABELS = 4;
    private static final int FAULT_INSTRUCTIONS = 5;
    private static final int FAULT_NO_LABEL = 6;
    private static final int FAULT_EMPTY = 7;

    private static final int CODE_KILLED = -1;
    private static final int TRAP_TOO_FEW = -2;
    private static final int TRAP_TOO_MANY = -3;
    private static final int TRAP_DIVISOR = -4;
    private static final int TRAP_MEMORY = -5;
    private static final int TRAP_RETURNS = -6;
    private static final int TRAP_NO_INSTRUCTION = -7;
    private static final int TRAP_SEMAPHORE = -8;
    private static final int TRAP_LEVEL = -9;

    // How an attempt at an instruction came out; an outcome below 0 is a trap's code.
    private static final int DONE = 0;
    private static final int DONE_AND_PLACED = 1;
    private static final int WAITS = 2;
    private static final int EXITS = 3;

    private static final int KIND_STACK = 0;
    private static final int KIND_PAIR = 1;
    private static final int KIND_FLOW = 2;
    private static final int KIND_MEMORY = 3;
    private static final int KIND_TALK = 4;
    private static final int KIND_FAMILY = 5;
    private static final int KIND_TURN = 6;

    private final Tape tape;
    private final Reader reader;
    private final Desk desk;
    private final Worker worker;

    public ShareMonitor() {
        tape = new Tape();
        reader = new Reader(tape);
        desk = new Desk();
        worker = new Worker(desk);
    }

    public int feed(int a, int b, int c, int d, int e) throws UnsupportedOperationException {
        if (tape.length + FEED_BYTES > TAPE_BYTES) {
            throw new UnsupportedOperationException("the tape is full");
        }
        tape.append(a);
        tape.append(b);
        tape.append(c);
        tape.append(d);
        tape.append(e);
        return tape.length;
    }

    public void end(int n) throws IllegalArgumentException {
        if (n < 0 || n > tape.length) {
            throw new IllegalArgumentException("the tape has not so many bytes");
        }
        tape.length = n;
    }

    public int load(int level) throws IndexOutOfBoundsException, UnsupportedOperationException {
        if (level < 0 || level >= LEVELS) {
            throw new IndexOutOfBoundsException("no such level");
        }
        UserProcess fresh = desk.leastFree();
        Program program = desk.spareProgram();
        if (fresh == null || program == null) {
            throw new UnsupportedOperationException("no process is free");
        }
        reader.read(program);
        tape.length = 0;
        if (reader.fault != 0) {
            return -1 - reader.faultPlace;
        }
        desk.admit(fresh, program, level);
        return fresh.number;
    }

    public int fault() {
        return reader.fault;
    }

    public int tick() {
        return worker.advance();
    }

    public int run(int n) throws IllegalArgumentException {
        if (n < 0 || n > RUN_TOP) {
            throw new IllegalArgumentException("not so many ticks");
        }
        int busy = 0;
        for (int i = 0; i < n; i++) {
            if (worker.advance() != NONE) {
                busy++;
            }
        }
        return busy;
    }

    public int quantum(int n) throws IllegalArgumentException {
        if (n < 1 || n > QUANTUM_TOP) {
            throw new IllegalArgumentException("no such quantum");
        }
        int before = worker.quantum;
        worker.quantum = n;
        return before;
    }

    public boolean kill(int p) throws IndexOutOfBoundsException {
        UserProcess who = desk.find(p);
        if (who == null) {
            throw new IndexOutOfBoundsException("no such process");
        }
        if (!who.isAlive()) {
            return false;
        }
        desk.finish(who, CODE_KILLED);
        return true;
    }

    public int reap(int p) throws IndexOutOfBoundsException, IllegalStateException {
        UserProcess who = desk.find(p);
        if (who == null) {
            throw new IndexOutOfBoundsException("no such process");
        }
        if (who.status != ENDED || who.parent != 0) {
            throw new IllegalStateException("it is not ended without a parent");
        }
        int code = who.code;
        who.vanish();
        return code;
    }

    public boolean key(int p, int c) throws IndexOutOfBoundsException, IllegalStateException {
        UserProcess who = desk.find(p);
        if (who == null) {
            throw new IndexOutOfBoundsException("no such process");
        }
        if (!who.isAlive()) {
            throw new IllegalStateException("it is not alive");
        }
        if (!who.keys.put(c, 0)) {
            return false;
        }
        if (who.status == FOR_KEY) {
            desk.makeReady(who);
        }
        return true;
    }

    public boolean post(int p, int a) throws IndexOutOfBoundsException, IllegalStateException {
        UserProcess who = desk.find(p);
        if (who == null) {
            throw new IndexOutOfBoundsException("no such process");
        }
        if (!who.isAlive()) {
            throw new IllegalStateException("it is not alive");
        }
        return desk.deliver(who, a, 0);
    }

    public int state(int p, int what) throws IndexOutOfBoundsException {
        UserProcess who = desk.find(p);
        if (who == null || what < 0 || what > 12) {
            throw new IndexOutOfBoundsException("no such process or what");
        }
        switch (what) {
            case 0: return who.status;
            case 1: return who.code;
            case 2: return who.level;
            case 3: return who.parent;
            case 4: return who.next;
            case 5: return who.depth;
            case 6: return who.returnDepth;
            case 7: return who.box.size;
            case 8: return who.keys.size;
            case 9: return desk.memory.cellsOf(p);
            case 10: return who.done;
            case 11: return who.awaited;
            default: return who.streak;
        }
    }

    public int stack(int p, int i) throws IndexOutOfBoundsException {
        UserProcess who = desk.find(p);
        if (who == null || i < 0 || i >= who.depth) {
            throw new IndexOutOfBoundsException("no such process or number");
        }
        return who.numbers[i];
    }

    public int message(int p, int i, boolean whose) throws IndexOutOfBoundsException {
        UserProcess who = desk.find(p);
        if (who == null || i < 0 || i >= who.box.size) {
            throw new IndexOutOfBoundsException("no such process or message");
        }
        return whose ? who.box.senders[i] : who.box.numbers[i];
    }

    public int ready(int level, int i) throws IndexOutOfBoundsException {
        if (level < 0 || level >= LEVELS || i < 0 || i >= desk.rows[level].size) {
            throw new IndexOutOfBoundsException("no such level or place");
        }
        return desk.rows[level].members[i];
    }

    public int cell(int address) throws IndexOutOfBoundsException {
        if (address < 0 || address >= CELLS) {
            throw new IndexOutOfBoundsException("no such cell");
        }
        return desk.memory.cells[address];
    }

    public int block(int k, int what) throws IndexOutOfBoundsException {
        int address = desk.memory.addressOf(k);
        if (address < 0 || address >= CELLS || what < 0 || what > 2) {
            throw new IndexOutOfBoundsException("no such block or what");
        }
        if (what == 0) {
            return address;
        }
        return what == 1 ? desk.memory.sizes[address] : desk.memory.holders[address];
    }

    public int semaphore(int k, int what) throws IndexOutOfBoundsException {
        if (k < 0 || k >= SEMAPHORES || what < 0 || what - 2 >= desk.queues[k].size) {
            throw new IndexOutOfBoundsException("no such semaphore or what");
        }
        if (what == 0) {
            return desk.values[k];
        }
        return what == 1 ? desk.queues[k].size : desk.queues[k].members[what - 2];
    }

    public int out(int i) throws IndexOutOfBoundsException {
        if (i < 0 || i >= desk.shown) {
            throw new IndexOutOfBoundsException("no such number");
        }
        return desk.console[i];
    }

    public int count(int what) throws IndexOutOfBoundsException {
        if (what < 0 || what > 10) {
            throw new IndexOutOfBoundsException("no such what");
        }
        switch (what) {
            case 0: return desk.clock;
            case 1: return desk.shown;
            case 2: return desk.lost;
            case 3: return desk.memory.cellsOf(0);
            case 4: return desk.memory.blocks();
            case 5: return desk.countFrom(READY, FOR_SEMAPHORE);
            case 6: return desk.countFrom(READY, READY);
            case 7: return desk.countFrom(ENDED, ENDED);
            case 8: return desk.programsInUse();
            case 9: return desk.instructionsInUse();
            default: return tape.length;
        }
    }

    /** What an instruction can be; its text, what it needs, and by how much the stack grows by it. */
    private enum Op {
        NUMBER("", KIND_STACK, 0, 1),
        DUP("dup", KIND_STACK, 1, 1),
        DROP("drop", KIND_STACK, 1, 0),
        SWAP("swap", KIND_STACK, 2, 0),
        OVER("over", KIND_STACK, 2, 1),
        ROT("rot", KIND_STACK, 3, 0),
        NOT("not", KIND_STACK, 1, 0),
        PLUS("+", KIND_PAIR, 2, 0),
        MINUS("-", KIND_PAIR, 2, 0),
        TIMES("*", KIND_PAIR, 2, 0),
        DIVIDE("/", KIND_PAIR, 2, 0),
        REST("%", KIND_PAIR, 2, 0),
        AND("and", KIND_PAIR, 2, 0),
        OR("or", KIND_PAIR, 2, 0),
        XOR("xor", KIND_PAIR, 2, 0),
        LEFT("left", KIND_PAIR, 2, 0),
        RIGHT("right", KIND_PAIR, 2, 0),
        EQUAL("=", KIND_PAIR, 2, 0),
        LESS("<", KIND_PAIR, 2, 0),
        MORE(">", KIND_PAIR, 2, 0),
        JUMP("jump", KIND_FLOW, 0, 0),
        ZERO("zero", KIND_FLOW, 1, 0),
        CALL("call", KIND_FLOW, 0, 0),
        RETURN("return", KIND_FLOW, 0, 0),
        EXIT("exit", KIND_FLOW, 1, 0),
        FETCH("@", KIND_MEMORY, 1, 0),
        STORE("!", KIND_MEMORY, 2, 0),
        ALLOC("alloc", KIND_MEMORY, 1, 0),
        RELEASE("free", KIND_MEMORY, 1, 0),
        GIVE("give", KIND_MEMORY, 2, 0),
        SEND("send", KIND_TALK, 2, 0),
        RECV("recv", KIND_TALK, 0, 2),
        EMIT("emit", KIND_TALK, 1, 0),
        READKEY("readkey", KIND_TALK, 0, 1),
        SPAWN("spawn", KIND_FAMILY, 0, 1),
        WAIT("wait", KIND_FAMILY, 1, 1),
        KILL("kill", KIND_FAMILY, 1, 0),
        SELF("self", KIND_FAMILY, 0, 1),
        LEVEL("level", KIND_TURN, 1, 0),
        YIELD("yield", KIND_TURN, 0, 0),
        SLEEP("sleep", KIND_TURN, 1, 0),
        DOWN("down", KIND_TURN, 1, 0),
        UP("up", KIND_TURN, 1, 0);

        private static final Op[] ALL = values();

        final String text;
        final int kind;
        final int needs;
        final int grows;

        Op(String text, int kind, int needs, int grows) {
            this.text = text;
            this.kind = kind;
            this.needs = needs;
            this.grows = grows;
        }

        static Op written(Tape tape, int from, int to) {
            for (int i = 0; i < ALL.length; i++) {
                if (tape.says(ALL[i].text, from, to)) {
                    return ALL[i];
                }
            }
            return null;
        }

        boolean hasName() {
            return this == JUMP || this == ZERO || this == CALL || this == SPAWN;
        }
    }

    private static final class Tape {
        final byte[] bytes = new byte[TAPE_BYTES];
        int length;

        void append(int number) {
            for (int shift = 24; shift >= 0 && length < TAPE_BYTES; shift -= 8) {
                bytes[length] = (byte) (number >> shift);
                length++;
            }
        }

        int at(int place) {
            return place >= 0 && place < length ? bytes[place] & 255 : NONE;
        }

        boolean says(String text, int from, int to) {
            if (to - from != text.length() || from < 0 || to > length) {
                return false;
            }
            for (int i = 0; i < text.length(); i++) {
                if (bytes[from + i] != text.charAt(i)) {
                    return false;
                }
            }
            return true;
        }

        boolean repeats(int one, int other, int size) {
            for (int i = 0; i < size; i++) {
                if (at(one + i) != at(other + i)) {
                    return false;
                }
            }
            return true;
        }
    }

    private static final class Program {
        final Op[] ops = new Op[INSTRUCTIONS];
        final int[] numbers = new int[INSTRUCTIONS];
        int size;
        // Processes that are not FREE and have it; the program is gone when there is none.
        int users;
    }

    /** Reads the tape as a program; the first fault ends the reading. */
    private static final class Reader {
        private static final long NO_NUMBER = 9000000000L;
        private static final long NUMBER_SIZE_TOP = 2147483648L;

        final Tape tape;
        final int[] labelPlaces = new int[LABELS];
        final int[] labelSizes = new int[LABELS];
        final int[] labelTargets = new int[LABELS];
        int labels;
        // Of each instruction: the NAME behind it, of size 0 without one. Labels may be told
        // later than they are used, so names are looked up when all is read.
        final int[] namePlaces = new int[INSTRUCTIONS];
        final int[] nameSizes = new int[INSTRUCTIONS];
        int start;
        int stop;
        int fault;
        int faultPlace;

        Reader(Tape tape) {
            this.tape = tape;
        }

        void read(Program program) {
            program.size = 0;
            labels = 0;
            stop = 0;
            fault = 0;
            faultPlace = 0;
            for (int words = 0; words < TAPE_BYTES && fault == 0 && findWord(); words++) {
                readWord(program);
            }
            if (fault == 0) {
                findTargets(program);
            }
            if (fault == 0 && program.size == 0) {
                blame(FAULT_EMPTY, tape.length);
            }
        }

        private void blame(int code, int place) {
            fault = code;
            faultPlace = place;
        }

        private boolean findWord() {
            start = placeBehindBlanks(stop);
            stop = start;
            while (stop < tape.length && !isBlank(tape.at(stop))) {
                stop++;
            }
            return stop > start;
        }

        private int placeBehindBlanks(int from) {
            boolean comment = false;
            for (int at = from; at < tape.length; at++) {
                int b = tape.at(at);
                if (b == '\n') {
                    comment = false;
                } else if (b == '#') {
                    comment = true;
                } else if (!comment && !isBlank(b)) {
                    return at;
                }
            }
            return tape.length;
        }

        private void readWord(Program program) {
            long number = numberHere();
            if (number != NO_NUMBER) {
                addInstruction(program, Op.NUMBER, (int) number);
                return;
            }
            Op op = Op.written(tape, start, stop);
            if (op != null) {
                addInstruction(program, op, 0);
                if (fault == 0 && op.hasName()) {
                    readName(program.size - 1);
                }
            } else if (tape.at(stop - 1) == ':' && isName(start, stop - 1)) {
                addLabel(program.size);
            } else {
                blame(FAULT_WORD, start);
            }
        }

        private void addInstruction(Program program, Op op, int number) {
            int at = program.size;
            if (at >= INSTRUCTIONS) {
                blame(FAULT_INSTRUCTIONS, start);
                return;
            }
            program.ops[at] = op;
            program.numbers[at] = number;
            nameSizes[at] = 0;
            program.size = at + 1;
        }

        private void readName(int instruction) {
            if (!findWord() || !isName(start, stop)) {
                blame(FAULT_NO_NAME, start);
            } else if (instruction >= 0 && instruction < INSTRUCTIONS) {
                namePlaces[instruction] = start;
                nameSizes[instruction] = stop - start;
            }
        }

        private void addLabel(int target) {
            int size = stop - 1 - start;
            if (targetOf(start, size) != NONE) {
                blame(FAULT_TOLD_ALREADY, start);
            } else if (labels >= LABELS) {
                blame(FAULT_LABELS, start);
            } else {
                labelPlaces[labels] = start;
                labelSizes[labels] = size;
                labelTargets[labels] = target;
                labels++;
            }
        }

        private int targetOf(int place, int size) {
            for (int i = 0; i < labels; i++) {
                if (labelSizes[i] == size && tape.repeats(labelPlaces[i], place, size)) {
                    return labelTargets[i];
                }
            }
            return NONE;
        }

        private void findTargets(Program program) {
            for (int i = 0; i < program.size && fault == 0; i++) {
                if (nameSizes[i] > 0) {
                    program.numbers[i] = targetOf(namePlaces[i], nameSizes[i]);
                    if (program.numbers[i] == NONE) {
                        blame(FAULT_NO_LABEL, namePlaces[i]);
                    }
                }
            }
        }

        private long numberHere() {
            boolean below = tape.at(start) == '-';
            int from = below ? start + 1 : start;
            long size = 0;
            for (int i = from; i < stop; i++) {
                int b = tape.at(i);
                if (!isDigit(b)) {
                    return NO_NUMBER;
                }
                // Held just above the range, so that a long row of digits can't wrap back into it.
                size = Math.min(size * 10 + (b - '0'), NUMBER_SIZE_TOP + 1);
            }
            if (from == stop || size > NUMBER_SIZE_TOP || (!below && size == NUMBER_SIZE_TOP)) {
                return NO_NUMBER;
            }
            return below ? -size : size;
        }

        private boolean isName(int from, int to) {
            if (to - from < 1 || to - from > NAME_BYTES || !isLetter(tape.at(from))) {
                return false;
            }
            for (int i = from + 1; i < to; i++) {
                if (!isLetter(tape.at(i)) && !isDigit(tape.at(i))) {
                    return false;
                }
            }
            return Op.written(tape, from, to) == null;
        }

        private static boolean isBlank(int b) {
            return b == 9 || b == 10 || b == 13 || b == 32;
        }

        private static boolean isLetter(int b) {
            return b >= 'a' && b <= 'z';
        }

        private static boolean isDigit(int b) {
            return b >= '0' && b <= '9';
        }
    }

    /** A row of processes, first in, first out; one stands in it at most once. */
    private static final class Row {
        final int[] members = new int[PROCESSES];
        int size;

        void join(int p) {
            if (size < PROCESSES) {
                members[size] = p;
                size++;
            }
        }

        void leave(int p) {
            int kept = 0;
            for (int i = 0; i < size; i++) {
                if (members[i] != p) {
                    members[kept] = members[i];
                    kept++;
                }
            }
            size = kept;
        }

        int first() {
            return size > 0 ? members[0] : NONE;
        }
    }

    /** Up to eight numbers, each with whose it is: a process's messages, or its keys. */
    private static final class Box {
        final int[] numbers = new int[BOX_ROOM];
        final int[] senders = new int[BOX_ROOM];
        int size;

        boolean put(int number, int sender) {
            if (size >= BOX_ROOM) {
                return false;
            }
            numbers[size] = number;
            senders[size] = sender;
            size++;
            return true;
        }

        void dropFirst() {
            for (int i = 1; i < size; i++) {
                numbers[i - 1] = numbers[i];
                senders[i - 1] = senders[i];
            }
            if (size > 0) {
                size--;
            }
        }
    }

    private static final class UserProcess {
        final int number;
        final int[] numbers = new int[STACK_ROOM];
        final int[] returns = new int[RETURNS_ROOM];
        final Box box = new Box();
        final Box keys = new Box();
        int depth;
        int returnDepth;
        int status;
        int code;
        int level;
        int parent;
        Program program;
        int next;
        int done;
        // Instructions done since it last came to the end of its row.
        int streak;
        // The child, the clock's number or the semaphore that it waits for.
        int awaited;

        UserProcess(int number) {
            this.number = number;
        }

        boolean isAlive() {
            return status >= READY && status <= FOR_SEMAPHORE;
        }

        Op nextOp() {
            if (program == null || next < 0 || next >= program.size || next >= INSTRUCTIONS) {
                return null;
            }
            return program.ops[next];
        }

        int nextNumber() {
            return program == null || next < 0 || next >= INSTRUCTIONS ? 0 : program.numbers[next];
        }

        void push(int a) {
            if (depth < STACK_ROOM) {
                numbers[depth] = a;
                depth++;
            }
        }

        int pop() {
            if (depth < 1) {
                return 0;
            }
            depth--;
            return numbers[depth];
        }

        int top() {
            return depth > 0 ? numbers[depth - 1] : 0;
        }

        void empty() {
            depth = 0;
            returnDepth = 0;
            box.size = 0;
            keys.size = 0;
            next = 0;
            streak = 0;
            awaited = 0;
        }

        void vanish() {
            empty();
            if (program != null) {
                program.users--;
            }
            program = null;
            status = FREE;
            code = 0;
            level = 0;
            parent = 0;
            done = 0;
        }
    }

    /**
     * Cells in blocks. Each cell knows its holder, the first cell of a block how many it has, so
     * that a step from block to block is that many; it is held at 1 or more to always go on.
     */
    private static final class Memory {
        final int[] cells = new int[CELLS];
        final int[] holders = new int[CELLS];
        final int[] sizes = new int[CELLS];

        Memory() {
            sizes[0] = CELLS;
        }

        int take(int n, int holder) {
            if (n < 1 || n > CELLS) {
                return NONE;
            }
            for (int at = 0; at < CELLS; at += Math.max(sizes[at], 1)) {
                if (holders[at] == 0 && sizes[at] >= n) {
                    cut(at, n, holder);
                    return at;
                }
            }
            return NONE;
        }

        private void cut(int at, int n, int holder) {
            int end = at + n;
            int rest = sizes[at] - n;
            if (end < CELLS && rest > 0) {
                sizes[end] = rest;
            }
            sizes[at] = n;
            if (end <= CELLS) {
                Arrays.fill(cells, at, end, 0);
                Arrays.fill(holders, at, end, holder);
            }
        }

        boolean holds(int holder, int address) {
            return address >= 0 && address < CELLS && holders[address] == holder;
        }

        boolean holdsFrom(int holder, int address) {
            return holds(holder, address) && sizes[address] > 0;
        }

        void hand(int address, int holder) {
            if (address >= 0 && address < CELLS) {
                int end = Math.min(address + Math.max(sizes[address], 1), CELLS);
                Arrays.fill(holders, address, end, holder);
            }
        }

        /** Frees the holder's block at that address, or all its blocks where the address is NONE. */
        void regain(int holder, int address) {
            int free = NONE;
            int next = 0;
            for (int at = 0; at < CELLS; at = next) {
                next = at + Math.max(sizes[at], 1);
                if (holders[at] == holder && (address == at || address == NONE)) {
                    Arrays.fill(holders, at, Math.min(next, CELLS), 0);
                }
                if (holders[at] != 0) {
                    free = NONE;
                } else if (free == NONE) {
                    free = at;
                } else {
                    sizes[free] += sizes[at];
                    sizes[at] = 0;
                }
            }
        }

        int cellsOf(int holder) {
            int sum = 0;
            for (int at = 0; at < CELLS; at += Math.max(sizes[at], 1)) {
                if (holders[at] == holder) {
                    sum += sizes[at];
                }
            }
            return sum;
        }

        int blocks() {
            int sum = 0;
            for (int at = 0; at < CELLS; at += Math.max(sizes[at], 1)) {
                sum++;
            }
            return sum;
        }

        int addressOf(int k) {
            int left = k;
            for (int at = 0; at < CELLS; at += Math.max(sizes[at], 1)) {
                if (left == 0) {
                    return at;
                }
                left--;
            }
            return NONE;
        }
    }

    /** The processes, and what they share: rows, clock, semaphores, memory, console, programs. */
    private static final class Desk {
        // By number, so that place 0 stays empty.
        final UserProcess[] processes = new UserProcess[PROCESSES + 1];
        final Program[] programs = new Program[PROCESSES];
        final Row[] rows = new Row[LEVELS];
        final int[] values = new int[SEMAPHORES];
        final Row[] queues = new Row[SEMAPHORES];
        final Memory memory = new Memory();
        final int[] console = new int[CONSOLE_ROOM];
        int shown;
        int lost;
        int clock;
        // No sleeper wakes before it; it may be too early when a sleeper was killed.
        int soonest = CLOCK_TOP;

        Desk() {
            for (int i = 0; i < PROCESSES; i++) {
                processes[i + 1] = new UserProcess(i + 1);
                programs[i] = new Program();
            }
            for (int i = 0; i < LEVELS; i++) {
                rows[i] = new Row();
            }
            for (int i = 0; i < SEMAPHORES; i++) {
                queues[i] = new Row();
            }
        }

        UserProcess find(int p) {
            return p >= 1 && p <= PROCESSES ? processes[p] : null;
        }

        UserProcess findChild(UserProcess who, int p) {
            UserProcess child = find(p);
            return child != null && child.parent == who.number ? child : null;
        }

        UserProcess leastFree() {
            for (int p = 1; p <= PROCESSES; p++) {
                if (processes[p].status == FREE) {
                    return processes[p];
                }
            }
            return null;
        }

        Program spareProgram() {
            for (int i = 0; i < PROCESSES; i++) {
                if (programs[i].users == 0) {
                    return programs[i];
                }
            }
            return null;
        }

        void admit(UserProcess fresh, Program program, int level) {
            fresh.program = program;
            program.users++;
            fresh.level = level;
            makeReady(fresh);
        }

        void makeReady(UserProcess who) {
            who.status = READY;
            who.awaited = 0;
            who.streak = 0;
            rows[who.level].join(who.number);
        }

        void putLast(UserProcess who, int level) {
            rows[who.level].leave(who.number);
            who.level = level;
            makeReady(who);
        }

        void suspend(UserProcess who, int status, int awaited) {
            rows[who.level].leave(who.number);
            who.status = status;
            who.awaited = awaited;
            who.streak = 0;
        }

        boolean deliver(UserProcess to, int number, int sender) {
            if (!to.box.put(number, sender)) {
                return false;
            }
            if (to.status == FOR_MESSAGE) {
                makeReady(to);
            }
            return true;
        }

        void show(int number) {
            if (shown < CONSOLE_ROOM) {
                console[shown] = number;
                shown++;
            } else {
                lost++;
            }
        }

        void finish(UserProcess who, int code) {
            memory.regain(who.number, NONE);
            for (int i = 0; i < LEVELS; i++) {
                rows[i].leave(who.number);
            }
            for (int i = 0; i < SEMAPHORES; i++) {
                queues[i].leave(who.number);
            }
            who.empty();
            for (int p = 1; p <= PROCESSES; p++) {
                UserProcess child = processes[p];
                if (child.parent == who.number) {
                    child.parent = 0;
                    if (child.status == ENDED) {
                        child.vanish();
                    }
                }
            }
            who.status = ENDED;
            who.code = code;
            UserProcess parent = find(who.parent);
            if (parent != null && parent.status == FOR_END && parent.awaited == who.number) {
                makeReady(parent);
            }
        }

        void putToSleep(UserProcess who, int ticks) {
            int wakes = (int) Math.min((long) clock + ticks, CLOCK_TOP);
            soonest = Math.min(soonest, wakes);
            suspend(who, SLEEPS, wakes);
        }

        // Each tick wakes all that are due, so those due now have one time and go by number.
        void wakeSleepers() {
            soonest = CLOCK_TOP;
            for (int p = 1; p <= PROCESSES; p++) {
                UserProcess who = processes[p];
                if (who.status == SLEEPS && who.awaited <= clock) {
                    makeReady(who);
                } else if (who.status == SLEEPS) {
                    soonest = Math.min(soonest, who.awaited);
                }
            }
        }

        UserProcess firstReady() {
            for (int level = 0; level < LEVELS; level++) {
                if (rows[level].size > 0) {
                    return find(rows[level].first());
                }
            }
            return null;
        }

        int countFrom(int least, int most) {
            int sum = 0;
            for (int p = 1; p <= PROCESSES; p++) {
                if (processes[p].status >= least && processes[p].status <= most) {
                    sum++;
                }
            }
            return sum;
        }

        int programsInUse() {
            int sum = 0;
            for (int i = 0; i < PROCESSES; i++) {
                if (programs[i].users > 0) {
                    sum++;
                }
            }
            return sum;
        }

        int instructionsInUse() {
            int sum = 0;
            for (int i = 0; i < PROCESSES; i++) {
                if (programs[i].users > 0) {
                    sum += programs[i].size;
                }
            }
            return sum;
        }
    }

    /** Gives the turns and does the instructions. */
    private static final class Worker {
        final Desk desk;
        int quantum = QUANTUM_AT_FIRST;

        Worker(Desk desk) {
            this.desk = desk;
        }

        int advance() {
            desk.clock++;
            if (desk.clock >= desk.soonest) {
                desk.wakeSleepers();
            }
            UserProcess who = desk.firstReady();
            if (who == null) {
                return NONE;
            }
            Op op = who.nextOp();
            int outcome = op == null ? TRAP_NO_INSTRUCTION : obstacleTo(who, op);
            if (op != null && outcome == DONE) {
                outcome = perform(who, op);
            }
            settle(who, outcome);
            return who.number;
        }

        private void settle(UserProcess who, int outcome) {
            if (outcome < 0) {
                desk.finish(who, outcome);
            } else if (outcome == EXITS) {
                desk.finish(who, who.pop());
            } else if (outcome == DONE_AND_PLACED) {
                who.done++;
            } else if (outcome == DONE) {
                who.done++;
                who.streak++;
                if (who.streak >= quantum) {
                    desk.putLast(who, who.level);
                }
            }
        }

        /** What keeps it from its instruction: a trap, or that it must wait; DONE if nothing does. */
        private int obstacleTo(UserProcess who, Op op) {
            if (who.depth < op.needs) {
                return TRAP_TOO_FEW;
            }
            if (mustWait(who, op)) {
                return WAITS;
            }
            return who.depth + op.grows > STACK_ROOM ? TRAP_TOO_MANY : DONE;
        }

        private boolean mustWait(UserProcess who, Op op) {
            if (op == Op.RECV && who.box.size == 0) {
                desk.suspend(who, FOR_MESSAGE, 0);
                return true;
            }
            if (op == Op.READKEY && who.keys.size == 0) {
                desk.suspend(who, FOR_KEY, 0);
                return true;
            }
            if (op == Op.WAIT) {
                UserProcess child = desk.findChild(who, who.top());
                if (child != null && child.isAlive()) {
                    desk.suspend(who, FOR_END, child.number);
                    return true;
                }
            }
            return false;
        }

        private int perform(UserProcess who, Op op) {
            int number = who.nextNumber();
            who.next++;
            switch (op.kind) {
                case KIND_STACK: return shuffle(who, op, number);
                case KIND_PAIR: return compute(who, op);
                case KIND_FLOW: return follow(who, op, number);
                case KIND_MEMORY: return useMemory(who, op);
                case KIND_TALK: return talk(who, op);
                case KIND_FAMILY: return useChildren(who, op, number);
                default: return takeTurn(who, op);
            }
        }

        private int shuffle(UserProcess who, Op op, int number) {
            if (op == Op.NUMBER) {
                who.push(number);
                return DONE;
            }
            int c = who.pop();
            if (op == Op.NOT) {
                who.push(~c);
            } else if (op == Op.DUP) {
                who.push(c);
                who.push(c);
            } else if (op != Op.DROP) {
                shuffleSeveral(who, op, c);
            }
            return DONE;
        }

        private void shuffleSeveral(UserProcess who, Op op, int c) {
            int b = who.pop();
            if (op == Op.SWAP) {
                who.push(c);
                who.push(b);
            } else if (op == Op.OVER) {
                who.push(b);
                who.push(c);
                who.push(b);
            } else {
                int a = who.pop();
                who.push(b);
                who.push(c);
                who.push(a);
            }
        }

        private int compute(UserProcess who, Op op) {
            int b = who.pop();
            int a = who.pop();
            if (b == 0 && (op == Op.DIVIDE || op == Op.REST)) {
                return TRAP_DIVISOR;
            }
            who.push(resultOf(op, a, b));
            return DONE;
        }

        private static int resultOf(Op op, int a, int b) {
            switch (op) {
                case PLUS: return a + b;
                case MINUS: return a - b;
                case TIMES: return a * b;
                case DIVIDE: return b == 0 ? 0 : a / b;
                case REST: return b == 0 ? 0 : a % b;
                case AND: return a & b;
                case OR: return a | b;
                case XOR: return a ^ b;
                case LEFT: return a << (b & 31);
                case RIGHT: return a >> (b & 31);
                case EQUAL: return a == b ? 1 : 0;
                case LESS: return a < b ? 1 : 0;
                default: return a > b ? 1 : 0;
            }
        }

        private int follow(UserProcess who, Op op, int target) {
            switch (op) {
                case JUMP:
                    who.next = target;
                    return DONE;
                case ZERO:
                    if (who.pop() == 0) {
                        who.next = target;
                    }
                    return DONE;
                case CALL:
                    if (who.returnDepth >= RETURNS_ROOM) {
                        return TRAP_RETURNS;
                    }
                    who.returns[who.returnDepth] = who.next;
                    who.returnDepth++;
                    who.next = target;
                    return DONE;
                case RETURN:
                    if (who.returnDepth < 1) {
                        return TRAP_RETURNS;
                    }
                    who.returnDepth--;
                    who.next = who.returns[who.returnDepth];
                    return DONE;
                default:
                    return EXITS;
            }
        }

        private int useMemory(UserProcess who, Op op) {
            Memory memory = desk.memory;
            int top = who.pop();
            switch (op) {
                case FETCH:
                    if (!memory.holds(who.number, top)) {
                        return TRAP_MEMORY;
                    }
                    who.push(memory.cells[top]);
                    return DONE;
                case STORE:
                    if (!memory.holds(who.number, top)) {
                        return TRAP_MEMORY;
                    }
                    memory.cells[top] = who.pop();
                    return DONE;
                case ALLOC:
                    who.push(memory.take(top, who.number));
                    return DONE;
                case RELEASE:
                    who.push(release(who, top));
                    return DONE;
                default:
                    who.push(give(who, who.pop(), desk.find(top)));
                    return DONE;
            }
        }

        private int release(UserProcess who, int address) {
            if (!desk.memory.holdsFrom(who.number, address)) {
                return -1;
            }
            desk.memory.regain(who.number, address);
            return 0;
        }

        private int give(UserProcess who, int address, UserProcess to) {
            if (to == null || !to.isAlive() || !desk.memory.holdsFrom(who.number, address)) {
                return -1;
            }
            desk.memory.hand(address, to.number);
            return 0;
        }

        private int talk(UserProcess who, Op op) {
            switch (op) {
                case SEND:
                    UserProcess to = desk.find(who.pop());
                    who.push(send(who, who.pop(), to));
                    return DONE;
                case RECV:
                    who.push(who.box.numbers[0]);
                    who.push(who.box.senders[0]);
                    who.box.dropFirst();
                    return DONE;
                case EMIT:
                    desk.show(who.pop());
                    return DONE;
                default:
                    who.push(who.keys.numbers[0]);
                    who.keys.dropFirst();
                    return DONE;
            }
        }

        private int send(UserProcess who, int number, UserProcess to) {
            if (to == null || !to.isAlive()) {
                return -1;
            }
            return desk.deliver(to, number, who.number) ? 0 : -2;
        }

        private int useChildren(UserProcess who, Op op, int target) {
            switch (op) {
                case SPAWN:
                    who.push(spawn(who, target));
                    return DONE;
                case WAIT:
                    collect(who, desk.findChild(who, who.pop()));
                    return DONE;
                case KILL:
                    UserProcess child = desk.findChild(who, who.pop());
                    boolean alive = child != null && child.isAlive();
                    if (alive) {
                        desk.finish(child, CODE_KILLED);
                    }
                    who.push(alive ? 0 : -1);
                    return DONE;
                default:
                    who.push(who.number);
                    return DONE;
            }
        }

        private int spawn(UserProcess who, int target) {
            UserProcess fresh = desk.leastFree();
            if (fresh == null || who.program == null) {
                return -1;
            }
            desk.admit(fresh, who.program, who.level);
            fresh.parent = who.number;
            fresh.next = target;
            return fresh.number;
        }

        private void collect(UserProcess who, UserProcess child) {
            if (child == null) {
                who.push(0);
                who.push(0);
            } else {
                who.push(child.code);
                who.push(1);
                child.vanish();
            }
        }

        private int takeTurn(UserProcess who, Op op) {
            if (op == Op.YIELD) {
                desk.putLast(who, who.level);
                return DONE_AND_PLACED;
            }
            int a = who.pop();
            if (op == Op.DOWN || op == Op.UP) {
                return a < 0 || a >= SEMAPHORES ? TRAP_SEMAPHORE : useSemaphore(who, op, a);
            }
            if (op == Op.LEVEL && (a < 0 || a >= LEVELS)) {
                return TRAP_LEVEL;
            }
            if (op == Op.LEVEL) {
                desk.putLast(who, a);
            } else if (a < 1) {
                desk.putLast(who, who.level);
            } else {
                desk.putToSleep(who, a);
            }
            return DONE_AND_PLACED;
        }

        private int useSemaphore(UserProcess who, Op op, int k) {
            Row queue = desk.queues[k];
            if (op == Op.UP) {
                UserProcess first = desk.find(queue.first());
                if (first != null) {
                    queue.leave(first.number);
                    desk.makeReady(first);
                } else if (desk.values[k] < SEMAPHORE_TOP) {
                    desk.values[k]++;
                }
                return DONE;
            }
            if (desk.values[k] > 0) {
                desk.values[k]--;
                return DONE;
            }
            desk.suspend(who, FOR_SEMAPHORE, k);
            queue.join(who.number);
            return DONE_AND_PLACED;
        }
    }
}
