import java.util.Arrays;

/** A program split into the code of a runner and of a worker, and the machine that does both. */
public final class TwoProcessors {
    public static final int NONE = -1;

    /** The answer for "there is none such" where -1 could be an answer itself, or ask for something. */
    private static final int NO_SUCH = -2;

    private static final int TAPE_MOST = 600;
    private static final int INSTRUCTIONS_MOST = 24;
    /** The place behind the last instruction is told as one more. */
    private static final int PLACES = INSTRUCTIONS_MOST + 1;
    private static final int REGISTERS = 8;
    private static final int CELLS = 32;
    private static final int NUMBERS = 1000;
    private static final int ROOM_MOST = 6;
    private static final int LATE_MOST = 9;
    private static final int NOW_MOST = 999;
    private static final int CYCLES_MOST = 50;
    private static final int AHEAD_MOST = 60;
    private static final int STEPS_MOST = 400;
    private static final int IMAGES = 3;

    private static final int QUEUES = 6;
    private static final int LOADS = 0;
    private static final int STORES = 1;
    private static final int DATA = 2;
    private static final int COPIES = 3;
    private static final int TOLD = 4;
    private static final int ASKED = 5;

    private static final int SIDES = 2;
    private static final int RUNNER = 0;
    private static final int WORKER = 1;
    private static final int REASONS = 7;
    /** No instruction gives one side more deeds: two sends, or a send and an ask. */
    private static final int DEEDS_MOST = 2;

    private static final int GOES_ON = 0;
    private static final int DONE = 1;
    private static final int STUCK = 2;
    private static final int OUT_OF_TIME = 3;

    // What instructions do, and (but for load, store, if) deeds of the same name.
    private static final int SET = 0;
    private static final int ADD = 1;
    private static final int SUB = 2;
    private static final int MUL = 3;
    private static final int LOAD = 4;
    private static final int STORE = 5;
    private static final int JUMP = 6;
    private static final int IF = 7;
    private static final int END = 8;
    // Deeds alone.
    private static final int SEND = 9;
    private static final int FETCH = 10;
    private static final int ISSUE = 11;
    private static final int GET = 12;
    private static final int PUT = 13;
    private static final int PLACE = 14;
    private static final int GIVE = 15;
    private static final int TELL = 16;
    private static final int HEED = 17;
    private static final int ASK = 18;
    private static final int JUDGE = 19;

    private final Whole whole = new Whole();
    private final Whole[] images = new Whole[IMAGES];
    private final boolean[] imageTaken = new boolean[IMAGES];
    private final Reader reader = new Reader();
    /** What would be is tried here, so that nothing of what is changes. */
    private final Machine trial = new Machine();
    private final Single single = new Single();
    private final StringBuilder line = new StringBuilder();

    public TwoProcessors() {
        for (int k = 0; k < IMAGES; k++) {
            images[k] = new Whole();
        }
        whole.machine.program.split();
    }

    public int feed(int a, int b, int c, int d, int e) {
        if (whole.length + 20 > TAPE_MOST) {
            return NONE;
        }
        whole.append(a);
        whole.append(b);
        whole.append(c);
        whole.append(d);
        whole.append(e);
        return whole.length;
    }

    public int end(int n) {
        if (n < 0 || n > whole.length) {
            return NONE;
        }
        whole.length = n;
        return n;
    }

    public int program() {
        reader.read(whole.tape, whole.length);
        whole.length = 0;
        whole.fault = reader.fault;
        whole.faultPlace = reader.faultPlace;
        if (reader.fault != 0) {
            return NONE;
        }
        whole.machine.program.copyFrom(reader.draft);
        whole.machine.program.split();
        whole.machine.toBeginning();
        return whole.machine.program.size;
    }

    public int fault(int what) {
        switch (what) {
            case 0:
                return whole.fault;
            case 1:
                return whole.faultPlace;
            default:
                return NONE;
        }
    }

    public int cycles(int n) {
        if (n < 1 || n > CYCLES_MOST) {
            return NONE;
        }
        return whole.machine.goOn(n);
    }

    public void begin() {
        whole.machine.toBeginning();
    }

    public boolean room(int queue, int much) {
        if (!isQueue(queue) || much < 1 || much > ROOM_MOST) {
            return false;
        }
        whole.machine.queues[queue].room = much;
        return true;
    }

    public int count(int what) {
        return figureOf(whole.machine, what);
    }

    public int side(int side, int what) {
        if (!isSide(side)) {
            return NONE;
        }
        if (what == 0) {
            return whole.machine.program.deedsInAll(side);
        }
        return whole.machine.sides[side].figure(what);
    }

    public int deeds(int side, int instruction) {
        return whole.machine.program.deedsAt(side, instruction);
    }

    public int text(int side, int instruction, int k, int i) {
        Program told = whole.machine.program;
        if (!told.hasDeed(side, instruction, k)) {
            return NONE;
        }
        line.setLength(0);
        told.write(line, side, instruction, k);
        return i < 0 || i >= line.length() ? NONE : line.charAt(i);
    }

    public int did(int side, int instruction, int k) {
        if (!whole.machine.program.hasDeed(side, instruction, k)) {
            return NONE;
        }
        return whole.machine.sides[side].timesDone[instruction * DEEDS_MOST + k];
    }

    public int queue(int queue, int i) {
        if (!isQueue(queue)) {
            return NO_SUCH;
        }
        Queue asked = whole.machine.queues[queue];
        return i == NONE ? asked.size : asked.heldAt(i);
    }

    public int roomOf(int queue) {
        return isQueue(queue) ? whole.machine.queues[queue].room : NONE;
    }

    public int cell(int cell) {
        return isCell(cell) ? whole.machine.cells[cell] : NONE;
    }

    public int register(int register) {
        return isRegister(register) ? whole.machine.registers[register] : NONE;
    }

    public int alone(int n, int what) {
        if (n < 0 || n > STEPS_MOST) {
            return NONE;
        }
        Program told = whole.machine.program;
        single.startOf(told);
        for (int i = 0; i < n && !single.ended; i++) {
            single.step(told);
        }
        return single.figure(what);
    }

    public int ahead(int n, int what) {
        if (n < 0 || n > AHEAD_MOST) {
            return NONE;
        }
        trial.copyFrom(whole.machine);
        trial.goOn(n);
        return figureOf(trial, what);
    }

    public int time() {
        tryFromBeginning();
        trial.goOn(NOW_MOST);
        return trial.timeIfDone();
    }

    public int late(int late) {
        if (late < 1 || late > LATE_MOST) {
            return NONE;
        }
        tryFromBeginning();
        trial.late = late;
        trial.goOn(NOW_MOST);
        return trial.timeIfDone();
    }

    public int keeping(int register) {
        return isRegister(register) ? timeKeeping(register) : NONE;
    }

    public int best() {
        int found = NONE;
        int least = noTimeIsMost(time());
        for (int r = 0; r < REGISTERS; r++) {
            if (!isIn(whole.machine.program.aims, r)) {
                int time = noTimeIsMost(timeKeeping(r));
                if (time < least) {
                    least = time;
                    found = r;
                }
            }
        }
        return found;
    }

    public int least(int queue, boolean fast) {
        if (!isQueue(queue)) {
            return NONE;
        }
        if (!fast) {
            return leastNotStuck(queue, queue);
        }
        int due = timeWithRoom(queue, ROOM_MOST);
        if (due == NONE) {
            return NONE;
        }
        for (int much = 1; much < ROOM_MOST; much++) {
            if (timeWithRoom(queue, much) == due) {
                return much;
            }
        }
        return ROOM_MOST;
    }

    public int safe() {
        return leastNotStuck(0, QUEUES - 1);
    }

    public int rounds(int what) {
        return whole.machine.program.roundBits(what);
    }

    public int changed(int cell) {
        if (!isCell(cell)) {
            return NONE;
        }
        tryFromBeginning();
        int atFirst = trial.cells[cell];
        for (int i = 0; i < NOW_MOST && trial.outcome == GOES_ON; i++) {
            trial.oneCycle();
            if (trial.cells[cell] != atFirst) {
                return trial.now;
            }
        }
        return NONE;
    }

    public int slipped(int slip) {
        tryFromBeginning();
        for (int i = 0; i < NOW_MOST && trial.outcome == GOES_ON; i++) {
            if (trial.slip() == slip) {
                return trial.now;
            }
            trial.oneCycle();
        }
        return trial.slip() == slip ? trial.now : NONE;
    }

    public boolean image(int k) {
        if (k < 0 || k >= IMAGES) {
            return false;
        }
        images[k].copyFrom(whole);
        imageTaken[k] = true;
        return true;
    }

    public boolean again(int k) {
        if (k < 0 || k >= IMAGES || !imageTaken[k]) {
            return false;
        }
        whole.copyFrom(images[k]);
        return true;
    }

    private int figureOf(Machine machine, int what) {
        return what == 10 ? whole.length : machine.figure(what);
    }

    private void tryFromBeginning() {
        trial.program.copyFrom(whole.machine.program);
        trial.toBeginning();
    }

    private int timeKeeping(int register) {
        trial.program.copyFrom(whole.machine.program);
        trial.program.kept |= bit(register);
        trial.program.split();
        trial.toBeginning();
        trial.goOn(NOW_MOST);
        return trial.timeIfDone();
    }

    private int leastNotStuck(int firstQueue, int lastQueue) {
        for (int much = 1; much <= ROOM_MOST; much++) {
            tryFromBeginning();
            trial.setRooms(firstQueue, lastQueue, much);
            trial.goOn(NOW_MOST);
            if (trial.outcome != STUCK) {
                return much;
            }
        }
        return NONE;
    }

    private int timeWithRoom(int queue, int much) {
        tryFromBeginning();
        trial.setRooms(queue, queue, much);
        trial.goOn(NOW_MOST);
        return trial.timeIfDone();
    }

    private static int noTimeIsMost(int time) {
        return time == NONE ? NOW_MOST + 1 : time;
    }

    private static boolean isQueue(int queue) {
        return queue >= 0 && queue < QUEUES;
    }

    private static boolean isSide(int side) {
        return side >= 0 && side < SIDES;
    }

    private static boolean isCell(int cell) {
        return cell >= 0 && cell < CELLS;
    }

    private static boolean isRegister(int register) {
        return register >= 0 && register < REGISTERS;
    }

    private static int bit(int number) {
        return 1 << number;
    }

    private static boolean isIn(int bits, int number) {
        return (bits >> number & 1) != 0;
    }

    private static boolean isReckoning(int op) {
        return op == ADD || op == SUB || op == MUL;
    }

    private static int reckon(int op, int x, int y) {
        switch (op) {
            case ADD:
                return (x + y) % NUMBERS;
            case SUB:
                return (x - y + NUMBERS) % NUMBERS;
            default:
                return x * y % NUMBERS;
        }
    }

    private static int deedPlace(int side, int instruction, int k) {
        return (side * PLACES + instruction) * DEEDS_MOST + k;
    }

    /** All that is, as an image has it too. */
    private static final class Whole {
        final byte[] tape = new byte[TAPE_MOST];
        int length;
        int fault;
        int faultPlace = NONE;
        final Machine machine = new Machine();

        void append(int four) {
            for (int shift = 24; shift >= 0 && length < TAPE_MOST; shift -= 8) {
                tape[length] = (byte) (four >> shift);
                length++;
            }
        }

        void copyFrom(Whole other) {
            System.arraycopy(other.tape, 0, tape, 0, TAPE_MOST);
            length = other.length;
            fault = other.fault;
            faultPlace = other.faultPlace;
            machine.copyFrom(other.machine);
        }
    }

    private static final class Instruction {
        int op = END;
        /** The register that is written, loaded or stored. */
        int r;
        /** What is reckoned with or compared, or (s) what an address hangs on. */
        int s;
        int t;
        /** The number, or the instruction to go to. */
        int n;
        /** The sign between what is compared. */
        char relation = '=';

        void copyFrom(Instruction other) {
            op = other.op;
            r = other.r;
            s = other.s;
            t = other.t;
            n = other.n;
            relation = other.relation;
        }

        boolean decide(int x, int y) {
            switch (relation) {
                case '<':
                    return x < y;
                case '>':
                    return x > y;
                default:
                    return x == y;
            }
        }

        /** The cell of a load or a store, by what the registers hold. */
        int cellBy(int[] registers) {
            return (registers[s] + n) % CELLS;
        }
    }

    /** What a text told: the instructions, split into deeds, and how all is at the beginning. */
    private static final class Program {
        final Instruction[] rows = new Instruction[PLACES];
        int size;
        int late;
        int kept;
        int aims;
        final int[] rooms = new int[QUEUES];
        final int[] cells = new int[CELLS];
        final int[] registers = new int[REGISTERS];
        private final int[] kinds = new int[SIDES * PLACES * DEEDS_MOST];
        private final int[] sent = new int[PLACES * DEEDS_MOST];
        private final int[] deedCounts = new int[SIDES * PLACES];
        private final int[] reach = new int[INSTRUCTIONS_MOST];

        Program() {
            for (int i = 0; i < PLACES; i++) {
                rows[i] = new Instruction();
            }
            clear();
        }

        void clear() {
            size = 0;
            late = 3;
            kept = 0;
            Arrays.fill(rooms, 4);
            Arrays.fill(cells, 0);
            Arrays.fill(registers, 0);
            rows[0].op = END;
        }

        void copyFrom(Program other) {
            for (int i = 0; i <= other.size; i++) {
                rows[i].copyFrom(other.rows[i]);
            }
            size = other.size;
            late = other.late;
            kept = other.kept;
            aims = other.aims;
            System.arraycopy(other.rooms, 0, rooms, 0, QUEUES);
            System.arraycopy(other.cells, 0, cells, 0, CELLS);
            System.arraycopy(other.registers, 0, registers, 0, REGISTERS);
            System.arraycopy(other.kinds, 0, kinds, 0, kinds.length);
            System.arraycopy(other.sent, 0, sent, 0, sent.length);
            System.arraycopy(other.deedCounts, 0, deedCounts, 0, deedCounts.length);
        }

        /** Finds the runner's registers and tells each instruction's deeds by them. */
        void split() {
            aims = kept;
            // Each turn but the last brings a register, so this many turns bring all.
            for (int turn = 0; turn <= REGISTERS; turn++) {
                widenAims();
            }
            Arrays.fill(deedCounts, 0);
            for (int i = 0; i <= size; i++) {
                splitOne(i, rows[i]);
            }
        }

        private void widenAims() {
            for (int i = 0; i < size; i++) {
                Instruction row = rows[i];
                if (row.op == LOAD || row.op == STORE) {
                    aims |= bit(row.s);
                } else if (isReckoning(row.op) && isIn(aims, row.r)) {
                    aims |= bit(row.s) | bit(row.t);
                }
            }
        }

        private void splitOne(int i, Instruction row) {
            switch (row.op) {
                case SET:
                    addDeed(isIn(aims, row.r) ? RUNNER : WORKER, i, SET);
                    break;
                case ADD:
                case SUB:
                case MUL:
                    splitReckoning(i, row);
                    break;
                case LOAD:
                    splitMemory(i, row, FETCH, ISSUE, GET);
                    break;
                case STORE:
                    splitMemory(i, row, PUT, PLACE, GIVE);
                    break;
                case IF:
                    splitIf(i, row);
                    break;
                default:
                    addDeed(RUNNER, i, row.op);
                    addDeed(WORKER, i, row.op);
                    break;
            }
        }

        private void splitReckoning(int i, Instruction row) {
            if (isIn(aims, row.r)) {
                addDeed(RUNNER, i, row.op);
            } else {
                addSend(i, row.s);
                addSend(i, row.t);
                addDeed(WORKER, i, row.op);
            }
        }

        private void splitMemory(int i, Instruction row, int byRunner, int ofRunner, int ofWorker) {
            if (isIn(aims, row.r)) {
                addDeed(RUNNER, i, byRunner);
            } else {
                addDeed(RUNNER, i, ofRunner);
                addDeed(WORKER, i, ofWorker);
            }
        }

        private void splitIf(int i, Instruction row) {
            if (isIn(aims, row.s) && isIn(aims, row.t)) {
                addDeed(RUNNER, i, TELL);
                addDeed(WORKER, i, HEED);
            } else {
                addSend(i, row.s);
                addSend(i, row.t);
                addDeed(RUNNER, i, ASK);
                addDeed(WORKER, i, JUDGE);
            }
        }

        private void addSend(int i, int register) {
            int k = deedCounts[RUNNER * PLACES + i];
            if (isIn(aims, register) && k < DEEDS_MOST) {
                sent[i * DEEDS_MOST + k] = register;
                addDeed(RUNNER, i, SEND);
            }
        }

        private void addDeed(int side, int i, int kind) {
            int k = deedCounts[side * PLACES + i];
            if (k < DEEDS_MOST) {
                kinds[deedPlace(side, i, k)] = kind;
                deedCounts[side * PLACES + i] = k + 1;
            }
        }

        int deedsAt(int side, int i) {
            return isSide(side) && i >= 0 && i <= size ? deedCounts[side * PLACES + i] : NONE;
        }

        int deedsInAll(int side) {
            int all = 0;
            for (int i = 0; i <= size; i++) {
                all += deedsAt(side, i);
            }
            return all;
        }

        boolean hasDeed(int side, int i, int k) {
            return k >= 0 && k < deedsAt(side, i);
        }

        int kindOf(int side, int i, int k) {
            return kinds[deedPlace(side, i, k)];
        }

        int sentAt(int i, int k) {
            return sent[i * DEEDS_MOST + k];
        }

        void write(StringBuilder to, int side, int i, int k) {
            Instruction row = rows[i];
            int kind = kindOf(side, i, k);
            to.append(wordOf(kind));
            switch (kind) {
                case SEND:
                    writeRegister(to, sentAt(i, k));
                    break;
                case GET:
                case GIVE:
                    writeRegister(to, row.r);
                    break;
                case SET:
                    writeRegister(to, row.r);
                    writeNumber(to, row.n);
                    break;
                case ADD:
                case SUB:
                case MUL:
                    writeRegister(to, row.r);
                    writeRegister(to, row.s);
                    writeRegister(to, row.t);
                    break;
                case FETCH:
                case PUT:
                    writeRegister(to, row.r);
                    writeRegister(to, row.s);
                    writeNumber(to, row.n);
                    break;
                case ISSUE:
                case PLACE:
                    writeRegister(to, row.s);
                    writeNumber(to, row.n);
                    break;
                case TELL:
                case JUDGE:
                    writeRegister(to, row.s);
                    to.append(row.relation);
                    to.append(letterOf(row.t));
                    writeNumber(to, row.n);
                    break;
                case END:
                    break;
                default:
                    writeNumber(to, row.n);
                    break;
            }
        }

        private static void writeRegister(StringBuilder to, int register) {
            to.append(' ');
            to.append(letterOf(register));
        }

        private static void writeNumber(StringBuilder to, int number) {
            to.append(' ');
            to.append(number);
        }

        private static char letterOf(int register) {
            return (char) ('a' + register);
        }

        private static String wordOf(int kind) {
            switch (kind) {
                case SET:
                    return "set";
                case ADD:
                    return "add";
                case SUB:
                    return "sub";
                case MUL:
                    return "mul";
                case JUMP:
                    return "jump";
                case END:
                    return "end";
                case SEND:
                    return "send";
                case FETCH:
                    return "fetch";
                case ISSUE:
                    return "issue";
                case GET:
                    return "get";
                case PUT:
                    return "put";
                case PLACE:
                    return "place";
                case GIVE:
                    return "give";
                case TELL:
                    return "tell";
                case HEED:
                    return "heed";
                case ASK:
                    return "ask";
                default:
                    return "judge";
            }
        }

        int roundBits(int what) {
            if (what < 0 || what > 2) {
                return NO_SUCH;
            }
            findReach();
            int bits = 0;
            for (int i = 0; i < size; i++) {
                int round = roundOf(i);
                if (what == 0) {
                    bits |= round;
                } else if (loses(i)) {
                    bits |= what == 1 ? round : round & bit(i);
                }
            }
            return bits;
        }

        private void findReach() {
            for (int i = 0; i < size; i++) {
                reach[i] = followers(i);
            }
            for (int over = 0; over < size; over++) {
                for (int i = 0; i < size; i++) {
                    if (isIn(reach[i], over)) {
                        reach[i] |= reach[over];
                    }
                }
            }
        }

        private int followers(int i) {
            switch (rows[i].op) {
                case END:
                    return 0;
                case JUMP:
                    return bit(rows[i].n);
                case IF:
                    return bit(rows[i].n) | bit(i + 1);
                default:
                    return bit(i + 1);
            }
        }

        /** The instructions of the round that i is in; none if i can't come to itself. */
        private int roundOf(int i) {
            int round = 0;
            for (int j = 0; j < size; j++) {
                if (isIn(reach[i], j) && isIn(reach[j], i)) {
                    round |= bit(j);
                }
            }
            return round;
        }

        private boolean loses(int i) {
            int last = deedsAt(RUNNER, i) - 1;
            if (last < 0) {
                return false;
            }
            int kind = kindOf(RUNNER, i, last);
            return kind == ASK || kind == FETCH;
        }
    }

    /** A tape's tokens, and behind them its end as one more. */
    private static final class Tokens {
        // Kinds of tokens; UNFIT is what can't stand anywhere.
        static final int UNFIT = 0;
        static final int WORD = 1;
        static final int LETTER = 2;
        static final int NAME = 3;
        static final int NUMBER = 4;
        static final int SIGN = 5;
        static final int OVER = 6;

        private static final String WORDS =
            "late room cell reg keep set add sub mul load store jump if end loads stores data copies told asked ";
        private static final int WORD_MOST = 8;
        private static final int DIGITS_MOST = 3;

        final int[] kinds = new int[TAPE_MOST + 1];
        /** A word's place among WORDS, a register, a number, or a sign's byte. */
        final int[] values = new int[TAPE_MOST + 1];
        final int[] places = new int[TAPE_MOST + 1];
        private final int[] ends = new int[TAPE_MOST + 1];
        private int count;
        private byte[] tape = new byte[0];
        private int length;

        void scan(byte[] bytes, int most) {
            tape = bytes;
            length = Math.max(0, Math.min(most, Math.min(bytes.length, TAPE_MOST)));
            count = 0;
            int at = 0;
            // Each turn goes by a byte at least.
            for (int turn = 0; turn < length && at < length; turn++) {
                at = isBlank(tape[at]) ? at + 1 : scanOne(at);
            }
            add(OVER, NONE, length, length);
        }

        private int scanOne(int from) {
            int first = tape[from];
            int to = from + 1;
            if (isLetter(first)) {
                while (to < length && isLetter(tape[to])) {
                    to++;
                }
                addLetters(from, to);
            } else if (isDigit(first)) {
                while (to < length && isDigit(tape[to])) {
                    to++;
                }
                addDigits(from, to);
            } else {
                add(isSign(first) ? SIGN : UNFIT, first, from, to);
            }
            return to;
        }

        private void addLetters(int from, int to) {
            if (to - from > WORD_MOST) {
                add(UNFIT, NONE, from, to);
            } else if (to - from == 1) {
                int register = tape[from] - 'a';
                add(isRegister(register) ? LETTER : UNFIT, register, from, to);
            } else {
                int word = wordNumber(from, to);
                add(word == NONE ? NAME : WORD, word, from, to);
            }
        }

        private void addDigits(int from, int to) {
            if (to - from > DIGITS_MOST) {
                add(UNFIT, NONE, from, to);
                return;
            }
            int number = 0;
            for (int i = from; i < to; i++) {
                number = number * 10 + tape[i] - '0';
            }
            add(NUMBER, number, from, to);
        }

        private void add(int kind, int value, int from, int to) {
            if (count <= TAPE_MOST) {
                kinds[count] = kind;
                values[count] = value;
                places[count] = from;
                ends[count] = to;
                count++;
            }
        }

        private int wordNumber(int from, int to) {
            int number = 0;
            int start = 0;
            for (int i = 0; i < WORDS.length(); i++) {
                if (WORDS.charAt(i) == ' ') {
                    if (i - start == to - from && isWordAt(start, from, to)) {
                        return number;
                    }
                    number++;
                    start = i + 1;
                }
            }
            return NONE;
        }

        private boolean isWordAt(int start, int from, int to) {
            for (int i = from; i < to; i++) {
                if (WORDS.charAt(start + i - from) != tape[i]) {
                    return false;
                }
            }
            return true;
        }

        boolean isSame(int one, int other) {
            int size = ends[one] - places[one];
            if (size != ends[other] - places[other]) {
                return false;
            }
            for (int i = 0; i < size; i++) {
                if (tape[places[one] + i] != tape[places[other] + i]) {
                    return false;
                }
            }
            return true;
        }

        private static boolean isBlank(int b) {
            return b == 10 || b == 32;
        }

        private static boolean isLetter(int b) {
            return b >= 'a' && b <= 'z';
        }

        private static boolean isDigit(int b) {
            return b >= '0' && b <= '9';
        }

        private static boolean isSign(int b) {
            return b == ';' || b == ':' || b == '<' || b == '=' || b == '>';
        }
    }

    /** Takes a tape as a text: a draft of the program, not yet split, or the fault. */
    private static final class Reader {
        // Places among the tokens' words.
        private static final int LATE_WORD = 0;
        private static final int ROOM_WORD = 1;
        private static final int CELL_WORD = 2;
        private static final int REG_WORD = 3;
        private static final int FIRST_OP_WORD = 5;
        private static final int FIRST_QUEUE_WORD = FIRST_OP_WORD + END + 1;

        private static final int NO_GOING_ON = 1;
        private static final int NUMBER_CANT_BE = 2;
        private static final int NAME_AGAIN = 3;
        private static final int TOO_MANY = 4;
        private static final int NO_SUCH_NAME = 5;

        /** No tape has more instructions: the shortest takes four bytes. */
        private static final int ROWS_MOST = TAPE_MOST / 4;

        final Program draft = new Program();
        int fault;
        int faultPlace;

        private final Tokens tokens = new Tokens();
        /** The token that is next; breaking off holds it where it is. */
        private int next;
        private int rowCount;
        // The tokens that are the name ahead of a row, and the name that it goes to.
        private final int[] names = new int[ROWS_MOST];
        private final int[] aims = new int[ROWS_MOST];

        void read(byte[] tape, int length) {
            tokens.scan(tape, length);
            next = 0;
            rowCount = 0;
            fault = 0;
            faultPlace = NONE;
            Arrays.fill(names, NONE);
            Arrays.fill(aims, NONE);
            draft.clear();
            for (int i = 0; i <= TAPE_MOST && !isNext(Tokens.OVER) && !isBroken(); i++) {
                readLine();
            }
            if (!isBroken()) {
                findAims();
            }
            if (fault == 0) {
                draft.size = Math.min(rowCount, INSTRUCTIONS_MOST);
                draft.rows[draft.size].op = END;
            }
        }

        private void readLine() {
            if (isNext(Tokens.WORD) && tokens.values[next] < FIRST_OP_WORD) {
                readSetting();
            } else {
                if (isNext(Tokens.NAME)) {
                    readNameAhead();
                }
                readInstruction();
            }
            takeSign(';');
        }

        private void readSetting() {
            int word = take(Tokens.WORD);
            switch (word) {
                case LATE_WORD:
                    draft.late = takeNumber(1, LATE_MOST);
                    break;
                case ROOM_WORD:
                    int queue = takeQueue();
                    draft.rooms[queue] = takeNumber(1, ROOM_MOST);
                    break;
                case CELL_WORD:
                    int cell = takeNumber(0, CELLS - 1);
                    draft.cells[cell] = takeNumber(0, NUMBERS - 1);
                    break;
                case REG_WORD:
                    int register = take(Tokens.LETTER);
                    draft.registers[register] = takeNumber(0, NUMBERS - 1);
                    break;
                default:
                    draft.kept |= bit(take(Tokens.LETTER));
                    break;
            }
        }

        private void readNameAhead() {
            if (rowNamed(next) != NONE) {
                note(NAME_AGAIN, next);
            }
            if (rowCount < ROWS_MOST) {
                names[rowCount] = next;
            }
            take(Tokens.NAME);
            takeSign(':');
        }

        private void readInstruction() {
            if (!isNext(Tokens.WORD)) {
                breakOff();
                return;
            }
            int op = tokens.values[next] - FIRST_OP_WORD;
            if (op < SET || op > END) {
                breakOff();
                return;
            }
            if (rowCount >= INSTRUCTIONS_MOST) {
                note(TOO_MANY, next);
            }
            take(Tokens.WORD);
            // What is one too many is never kept, but has to be read: a fault of the text comes first.
            Instruction row = draft.rows[Math.min(rowCount, INSTRUCTIONS_MOST)];
            row.op = op;
            readRest(row);
            rowCount++;
        }

        private void readRest(Instruction row) {
            switch (row.op) {
                case SET:
                    row.r = take(Tokens.LETTER);
                    row.n = takeNumber(0, NUMBERS - 1);
                    break;
                case ADD:
                case SUB:
                case MUL:
                    row.r = take(Tokens.LETTER);
                    row.s = take(Tokens.LETTER);
                    row.t = take(Tokens.LETTER);
                    break;
                case LOAD:
                case STORE:
                    row.r = take(Tokens.LETTER);
                    row.s = take(Tokens.LETTER);
                    row.n = takeNumber(0, CELLS - 1);
                    break;
                case JUMP:
                    takeAim();
                    break;
                case IF:
                    row.s = take(Tokens.LETTER);
                    row.relation = takeRelation();
                    row.t = take(Tokens.LETTER);
                    takeAim();
                    break;
                default:
                    break;
            }
        }

        private void findAims() {
            for (int i = 0; i < rowCount && i < ROWS_MOST; i++) {
                if (aims[i] != NONE) {
                    int aim = rowNamed(aims[i]);
                    if (aim == NONE) {
                        note(NO_SUCH_NAME, aims[i]);
                    } else {
                        draft.rows[Math.min(i, INSTRUCTIONS_MOST)].n = aim;
                    }
                }
            }
        }

        private int rowNamed(int name) {
            for (int i = 0; i < rowCount && i < ROWS_MOST; i++) {
                if (names[i] != NONE && tokens.isSame(names[i], name)) {
                    return i;
                }
            }
            return NONE;
        }

        // Each of these takes the token that is due, or breaks off; what it answers then is only harmless.

        private int take(int kind) {
            if (!isNext(kind)) {
                breakOff();
                return 0;
            }
            int value = tokens.values[next];
            next++;
            return value;
        }

        private int takeNumber(int low, int high) {
            int place = next;
            int number = take(Tokens.NUMBER);
            if (isBroken() || number >= low && number <= high) {
                return Math.max(low, number);
            }
            note(NUMBER_CANT_BE, place);
            return low;
        }

        private int takeQueue() {
            if (!isNext(Tokens.WORD) || tokens.values[next] < FIRST_QUEUE_WORD) {
                breakOff();
                return 0;
            }
            return take(Tokens.WORD) - FIRST_QUEUE_WORD;
        }

        private void takeAim() {
            if (isNext(Tokens.NAME) && rowCount < ROWS_MOST) {
                aims[rowCount] = next;
            }
            take(Tokens.NAME);
        }

        private char takeRelation() {
            if (isNext(Tokens.SIGN) && (tokens.values[next] == ';' || tokens.values[next] == ':')) {
                breakOff();
                return '=';
            }
            return (char) take(Tokens.SIGN);
        }

        private void takeSign(int sign) {
            if (isNext(Tokens.SIGN) && tokens.values[next] != sign) {
                breakOff();
            }
            take(Tokens.SIGN);
        }

        private boolean isNext(int kind) {
            return fault != NO_GOING_ON && next <= TAPE_MOST && tokens.kinds[next] == kind;
        }

        private boolean isBroken() {
            return fault == NO_GOING_ON;
        }

        /** The next token is the first with which no text goes on: a fault that comes ahead of all others. */
        private void breakOff() {
            if (fault != NO_GOING_ON && next <= TAPE_MOST) {
                fault = NO_GOING_ON;
                faultPlace = tokens.places[next];
            }
        }

        private void note(int found, int token) {
            if (fault == 0 || tokens.places[token] < faultPlace) {
                fault = found;
                faultPlace = tokens.places[token];
            }
        }
    }

    /** First in, first out; beside what each one holds, a mark: when it was issued, or what was put. */
    private static final class Queue {
        private final int[] held = new int[ROOM_MOST];
        private final int[] marks = new int[ROOM_MOST];
        private int first;
        int size;
        int room;

        void clear(int newRoom) {
            first = 0;
            size = 0;
            room = newRoom;
        }

        void copyFrom(Queue other) {
            System.arraycopy(other.held, 0, held, 0, ROOM_MOST);
            System.arraycopy(other.marks, 0, marks, 0, ROOM_MOST);
            first = other.first;
            size = other.size;
            room = other.room;
        }

        boolean isFull() {
            return size >= room;
        }

        void add(int value, int mark) {
            if (size < ROOM_MOST) {
                int at = (first + size) % ROOM_MOST;
                held[at] = value;
                marks[at] = mark;
                size++;
            }
        }

        int heldAt(int i) {
            return i < 0 || i >= size ? NO_SUCH : held[(first + i) % ROOM_MOST];
        }

        int markAt(int i) {
            return i < 0 || i >= size ? NONE : marks[(first + i) % ROOM_MOST];
        }

        int take() {
            if (size == 0) {
                return 0;
            }
            int value = held[first];
            first = (first + 1) % ROOM_MOST;
            size--;
            return value;
        }

        boolean holds(int value) {
            for (int i = 0; i < size; i++) {
                if (held[(first + i) % ROOM_MOST] == value) {
                    return true;
                }
            }
            return false;
        }
    }

    /** How far one of the two has come. */
    private static final class Side {
        private final int number;
        int at;
        int next;
        int passed;
        boolean ended;
        private int deedsDone;
        private int reason;
        private final int[] waits = new int[REASONS + 1];
        final int[] timesDone = new int[PLACES * DEEDS_MOST];

        Side(int number) {
            this.number = number;
        }

        void toBeginning() {
            at = 0;
            next = 0;
            passed = 0;
            ended = false;
            deedsDone = 0;
            reason = 0;
            Arrays.fill(waits, 0);
            Arrays.fill(timesDone, 0);
        }

        void copyFrom(Side other) {
            at = other.at;
            next = other.next;
            passed = other.passed;
            ended = other.ended;
            deedsDone = other.deedsDone;
            reason = other.reason;
            System.arraycopy(other.waits, 0, waits, 0, waits.length);
            System.arraycopy(other.timesDone, 0, timesDone, 0, timesDone.length);
        }

        /** The end behind the last instruction is a deed of both, so nobody passes it here. */
        void passWithoutDeeds(Program program) {
            while (at < program.size && program.deedsAt(number, at) == 0) {
                at++;
                passed++;
            }
        }

        int kindOfNext(Program program) {
            return program.kindOf(number, at, next);
        }

        void setReason(int why) {
            reason = why;
            if (why > 0 && why <= REASONS) {
                waits[why]++;
            }
        }

        /** The next deed is done, and where he goes if it was the instruction's last. */
        void finishDeed(Program program, int to) {
            timesDone[at * DEEDS_MOST + next]++;
            deedsDone++;
            next++;
            if (next >= program.deedsAt(number, at)) {
                next = 0;
                passed++;
                at = to;
            }
        }

        int figure(int what) {
            switch (what) {
                case 1:
                    return at;
                case 2:
                    return next;
                case 3:
                    return deedsDone;
                case 4:
                    return passed;
                case 5:
                    return ended ? 1 : 0;
                case 6:
                    return reason;
                default:
                    return what > 10 && what <= 10 + REASONS ? waits[what - 10] : NONE;
            }
        }
    }

    /** A program under way, cycle by cycle. */
    private static final class Machine {
        final Program program = new Program();
        final int[] registers = new int[REGISTERS];
        final int[] cells = new int[CELLS];
        final Queue[] queues = new Queue[QUEUES];
        final Side[] sides = new Side[SIDES];
        int now;
        int outcome;
        int late;
        private int greatestSlip;
        private int leastSlip;
        private int slipTogether;
        private int lost;
        private int written;
        /** The cycle in which the fetch that is under way began. */
        private int fetchBegan;
        private int fetched;
        /** Whether something went on in this cycle that may let others go on. */
        private boolean stirred;

        Machine() {
            for (int q = 0; q < QUEUES; q++) {
                queues[q] = new Queue();
            }
            for (int s = 0; s < SIDES; s++) {
                sides[s] = new Side(s);
            }
            toBeginning();
        }

        void toBeginning() {
            System.arraycopy(program.registers, 0, registers, 0, REGISTERS);
            System.arraycopy(program.cells, 0, cells, 0, CELLS);
            for (int q = 0; q < QUEUES; q++) {
                queues[q].clear(program.rooms[q]);
            }
            for (int s = 0; s < SIDES; s++) {
                sides[s].toBeginning();
            }
            now = 0;
            outcome = GOES_ON;
            late = program.late;
            greatestSlip = 0;
            leastSlip = 0;
            slipTogether = 0;
            lost = 0;
            written = 0;
            fetchBegan = NONE;
            fetched = 0;
        }

        void copyFrom(Machine other) {
            program.copyFrom(other.program);
            System.arraycopy(other.registers, 0, registers, 0, REGISTERS);
            System.arraycopy(other.cells, 0, cells, 0, CELLS);
            for (int q = 0; q < QUEUES; q++) {
                queues[q].copyFrom(other.queues[q]);
            }
            for (int s = 0; s < SIDES; s++) {
                sides[s].copyFrom(other.sides[s]);
            }
            now = other.now;
            outcome = other.outcome;
            late = other.late;
            greatestSlip = other.greatestSlip;
            leastSlip = other.leastSlip;
            slipTogether = other.slipTogether;
            lost = other.lost;
            written = other.written;
            fetchBegan = other.fetchBegan;
            fetched = other.fetched;
        }

        void setRooms(int firstQueue, int lastQueue, int much) {
            for (int q = Math.max(0, firstQueue); q <= lastQueue && q < QUEUES; q++) {
                queues[q].room = much;
            }
        }

        int timeIfDone() {
            return outcome == DONE ? now : NONE;
        }

        int goOn(int most) {
            int gone = 0;
            while (gone < most && outcome == GOES_ON) {
                oneCycle();
                gone++;
            }
            return gone;
        }

        void oneCycle() {
            now++;
            stirred = false;
            writeOne();
            runnerTries();
            workerTries();
            int slip = slip();
            greatestSlip = Math.max(greatestSlip, slip);
            leastSlip = Math.min(leastSlip, slip);
            slipTogether += slip;
            outcome = outcomeNow();
        }

        int slip() {
            return sides[RUNNER].passed - sides[WORKER].passed;
        }

        private int outcomeNow() {
            if (sides[RUNNER].ended && sides[WORKER].ended && queues[STORES].size == 0) {
                return DONE;
            }
            if (!stirred && allLoadsHaveCome()) {
                return STUCK;
            }
            return now >= NOW_MOST ? OUT_OF_TIME : GOES_ON;
        }

        private boolean allLoadsHaveCome() {
            for (int i = 0; i < queues[LOADS].size; i++) {
                if (!hasCome(i)) {
                    return false;
                }
            }
            return true;
        }

        private boolean hasCome(int i) {
            return i < queues[LOADS].size && now - queues[LOADS].markAt(i) >= late;
        }

        private void writeOne() {
            if (queues[STORES].size == 0) {
                return;
            }
            int value = queues[STORES].markAt(0);
            if (value == NONE) {
                if (queues[DATA].size == 0) {
                    return;
                }
                value = queues[DATA].take();
            }
            cells[queues[STORES].take()] = value;
            written++;
            stirred = true;
        }

        private void runnerTries() {
            Side runner = sides[RUNNER];
            runner.setReason(0);
            if (runner.ended) {
                return;
            }
            runner.passWithoutDeeds(program);
            Instruction row = program.rows[runner.at];
            int kind = runner.kindOfNext(program);
            int reason = runnerWaitsFor(kind, row);
            runner.setReason(reason);
            if (reason >= 5) {
                lost++;
            }
            if (reason == 0) {
                runner.finishDeed(program, runnerDoes(kind, row));
            }
            stirred |= reason == 0 || reason == 7;
        }

        private int runnerWaitsFor(int kind, Instruction row) {
            switch (kind) {
                case ISSUE:
                    if (queues[STORES].holds(row.cellBy(registers))) {
                        return 6;
                    }
                    return queues[LOADS].isFull() ? 1 : 0;
                case FETCH:
                    return fetchWaitsFor(row);
                case PLACE:
                case PUT:
                    return queues[STORES].isFull() ? 2 : 0;
                case SEND:
                    return queues[COPIES].isFull() ? 3 : 0;
                case TELL:
                    return queues[TOLD].isFull() ? 4 : 0;
                case ASK:
                    return queues[ASKED].size == 0 ? 5 : 0;
                default:
                    return 0;
            }
        }

        private int fetchWaitsFor(Instruction row) {
            if (fetchBegan == NONE) {
                int cell = row.cellBy(registers);
                if (queues[STORES].holds(cell)) {
                    return 6;
                }
                fetchBegan = now;
                fetched = cells[cell];
            }
            return now - fetchBegan < late ? 7 : 0;
        }

        /** Answers where he goes. */
        private int runnerDoes(int kind, Instruction row) {
            Side runner = sides[RUNNER];
            switch (kind) {
                case SEND:
                    queues[COPIES].add(registers[program.sentAt(runner.at, runner.next)], NONE);
                    return runner.at + 1;
                case FETCH:
                    registers[row.r] = fetched;
                    fetchBegan = NONE;
                    return runner.at + 1;
                case ISSUE:
                    queues[LOADS].add(cells[row.cellBy(registers)], now);
                    return runner.at + 1;
                case PUT:
                    queues[STORES].add(row.cellBy(registers), registers[row.r]);
                    return runner.at + 1;
                case PLACE:
                    queues[STORES].add(row.cellBy(registers), NONE);
                    return runner.at + 1;
                case TELL:
                    boolean yes = row.decide(registers[row.s], registers[row.t]);
                    queues[TOLD].add(yes ? 1 : 0, NONE);
                    return yes ? row.n : runner.at + 1;
                case ASK:
                    return queues[ASKED].take() == 1 ? row.n : runner.at + 1;
                case JUMP:
                    return row.n;
                case END:
                    runner.ended = true;
                    return runner.at;
                case SET:
                    registers[row.r] = row.n;
                    return runner.at + 1;
                default:
                    registers[row.r] = reckon(kind, registers[row.s], registers[row.t]);
                    return runner.at + 1;
            }
        }

        private void workerTries() {
            Side worker = sides[WORKER];
            worker.setReason(0);
            if (worker.ended) {
                return;
            }
            worker.passWithoutDeeds(program);
            Instruction row = program.rows[worker.at];
            int kind = worker.kindOfNext(program);
            int reason = workerWaitsFor(kind, row);
            worker.setReason(reason);
            if (reason == 0) {
                worker.finishDeed(program, workerDoes(kind, row));
                stirred = true;
            }
        }

        private int workerWaitsFor(int kind, Instruction row) {
            switch (kind) {
                case GET:
                    return hasCome(0) ? 0 : 1;
                case HEED:
                    return queues[TOLD].size == 0 ? 3 : 0;
                case GIVE:
                    return queues[DATA].isFull() ? 4 : 0;
                case ADD:
                case SUB:
                case MUL:
                    return lacksCopies(row) ? 2 : 0;
                case JUDGE:
                    if (lacksCopies(row)) {
                        return 2;
                    }
                    return queues[ASKED].isFull() ? 5 : 0;
                default:
                    return 0;
            }
        }

        private boolean lacksCopies(Instruction row) {
            int due = (isIn(program.aims, row.s) ? 1 : 0) + (isIn(program.aims, row.t) ? 1 : 0);
            return queues[COPIES].size < due;
        }

        /** Answers where he goes. */
        private int workerDoes(int kind, Instruction row) {
            Side worker = sides[WORKER];
            switch (kind) {
                case GET:
                    registers[row.r] = queues[LOADS].take();
                    return worker.at + 1;
                case GIVE:
                    queues[DATA].add(registers[row.r], NONE);
                    return worker.at + 1;
                case HEED:
                    return queues[TOLD].take() == 1 ? row.n : worker.at + 1;
                case JUDGE:
                    int left = ownOrCopy(row.s);
                    boolean yes = row.decide(left, ownOrCopy(row.t));
                    queues[ASKED].add(yes ? 1 : 0, NONE);
                    return yes ? row.n : worker.at + 1;
                case JUMP:
                    return row.n;
                case END:
                    worker.ended = true;
                    return worker.at;
                case SET:
                    registers[row.r] = row.n;
                    return worker.at + 1;
                default:
                    int first = ownOrCopy(row.s);
                    registers[row.r] = reckon(kind, first, ownOrCopy(row.t));
                    return worker.at + 1;
            }
        }

        /** What the worker reckons with: the runner's registers he knows by copies alone. */
        private int ownOrCopy(int register) {
            return isIn(program.aims, register) ? queues[COPIES].take() : registers[register];
        }

        int figure(int what) {
            switch (what) {
                case 0:
                    return now;
                case 1:
                    return outcome;
                case 2:
                    return program.size;
                case 3:
                    return program.aims;
                case 4:
                    return late;
                case 5:
                    return slip();
                case 6:
                    return greatestSlip;
                case 7:
                    return leastSlip;
                case 8:
                    return slipTogether;
                case 9:
                    return lost;
                case 11:
                    return written;
                default:
                    return NONE;
            }
        }
    }

    /** The program done by one alone. */
    private static final class Single {
        private final int[] registers = new int[REGISTERS];
        private final int[] cells = new int[CELLS];
        private int at;
        private int steps;
        boolean ended;

        void startOf(Program program) {
            System.arraycopy(program.registers, 0, registers, 0, REGISTERS);
            System.arraycopy(program.cells, 0, cells, 0, CELLS);
            at = 0;
            steps = 0;
            ended = false;
        }

        void step(Program program) {
            Instruction row = program.rows[at];
            steps++;
            int to = at + 1;
            switch (row.op) {
                case SET:
                    registers[row.r] = row.n;
                    break;
                case LOAD:
                    registers[row.r] = cells[row.cellBy(registers)];
                    break;
                case STORE:
                    cells[row.cellBy(registers)] = registers[row.r];
                    break;
                case JUMP:
                    to = row.n;
                    break;
                case IF:
                    if (row.decide(registers[row.s], registers[row.t])) {
                        to = row.n;
                    }
                    break;
                case END:
                    ended = true;
                    to = at;
                    break;
                default:
                    registers[row.r] = reckon(row.op, registers[row.s], registers[row.t]);
                    break;
            }
            at = to;
        }

        int figure(int what) {
            switch (what) {
                case 0:
                    return steps;
                case 1:
                    return ended ? 1 : 0;
                case 2:
                    return ended ? NONE : at;
                default:
                    break;
            }
            if (what >= 10 && what < 10 + REGISTERS) {
                return registers[what - 10];
            }
            return what >= 20 && what < 20 + CELLS ? cells[what - 20] : NONE;
        }
    }
}
