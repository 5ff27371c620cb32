import java.util.ArrayDeque;
import java.util.ArrayList;
import java.util.Arrays;
import java.util.Collections;
import java.util.List;
import java.util.TreeMap;
import java.util.TreeSet;
import java.util.regex.Matcher;
import java.util.regex.Pattern;

/**
 * The document once more, told in another way: deeds are texts and are done by reading them, the
 * grammar is a list of lines. Slow and plain; the class is compared with it over many calls.
 */
final class Oracle {
    static final String[] QUEUE_WORDS = {"loads", "stores", "data", "copies", "told", "asked"};
    static final List<String> QUOTED = List.of("late", "room", "cell", "reg", "keep", "set", "add", "sub", "mul",
        "load", "store", "jump", "if", "end", "loads", "stores", "data", "copies", "told", "asked");
    static final String[] SETTINGS = {"late N ;", "room Q N ;", "cell N N ;", "reg R N ;", "keep R ;"};
    static final String[] INSTRUCTIONS = {"set R N ;", "add R R R ;", "sub R R R ;", "mul R R R ;", "load R R N ;",
        "store R R N ;", "jump NAME ;", "if R C R NAME ;", "end ;"};

    static final class Prog {
        int late = 3;
        final int[] rooms = {4, 4, 4, 4, 4, 4};
        final int[] cells = new int[32];
        final int[] regs = new int[8];
        final TreeSet<Character> kept = new TreeSet<>();
        final List<List<String>> rows = new ArrayList<>();

        TreeSet<Character> aims(int more) {
            TreeSet<Character> aims = new TreeSet<>(kept);
            if (more >= 0) {
                aims.add((char) ('a' + more));
            }
            boolean grew = true;
            while (grew) {
                int before = aims.size();
                for (List<String> row : rows) {
                    String op = row.get(0);
                    if (op.equals("load") || op.equals("store")) {
                        aims.add(row.get(2).charAt(0));
                    }
                    if (List.of("add", "sub", "mul").contains(op) && aims.contains(row.get(1).charAt(0))) {
                        aims.add(row.get(2).charAt(0));
                        aims.add(row.get(3).charAt(0));
                    }
                }
                grew = aims.size() > before;
            }
            return aims;
        }

        List<String> row(int i) {
            return i < rows.size() ? rows.get(i) : List.of("end");
        }

        List<String> deeds(int side, int i, TreeSet<Character> aims) {
            List<String> runner = new ArrayList<>();
            List<String> worker = new ArrayList<>();
            List<String> row = row(i);
            String whole = String.join(" ", row);
            String op = row.get(0);
            switch (op) {
                case "set": case "add": case "sub": case "mul":
                    if (in(aims, row.get(1))) {
                        runner.add(whole);
                    } else {
                        for (int k = 2; k < row.size() && !op.equals("set"); k++) {
                            if (in(aims, row.get(k))) {
                                runner.add("send " + row.get(k));
                            }
                        }
                        worker.add(whole);
                    }
                    break;
                case "load": case "store":
                    boolean load = op.equals("load");
                    if (in(aims, row.get(1))) {
                        runner.add((load ? "fetch " : "put ") + row.get(1) + " " + row.get(2) + " " + row.get(3));
                    } else {
                        runner.add((load ? "issue " : "place ") + row.get(2) + " " + row.get(3));
                        worker.add((load ? "get " : "give ") + row.get(1));
                    }
                    break;
                case "if":
                    String asks = row.get(1) + row.get(2) + row.get(3) + " " + row.get(4);
                    if (in(aims, row.get(1)) && in(aims, row.get(3))) {
                        runner.add("tell " + asks);
                        worker.add("heed " + row.get(4));
                    } else {
                        if (in(aims, row.get(1))) {
                            runner.add("send " + row.get(1));
                        }
                        if (in(aims, row.get(3))) {
                            runner.add("send " + row.get(3));
                        }
                        runner.add("ask " + row.get(4));
                        worker.add("judge " + asks);
                    }
                    break;
                default:
                    runner.add(whole);
                    worker.add(whole);
                    break;
            }
            return side == 0 ? runner : worker;
        }

        private static boolean in(TreeSet<Character> aims, String r) {
            return aims.contains(r.charAt(0));
        }
    }

    static final class Run {
        final Prog prog;
        final TreeSet<Character> aims;
        final List<List<List<String>>> code = new ArrayList<>();
        int late;
        final int[] rooms;
        final int[] cells;
        final int[] regs;
        final List<ArrayDeque<int[]>> queues = new ArrayList<>();
        int now;
        int outcome;
        final int[] at = new int[2];
        final int[] next = new int[2];
        final int[] deedsDone = new int[2];
        final int[] passed = new int[2];
        final boolean[] ended = new boolean[2];
        final int[] reason = new int[2];
        final int[][] waits = new int[2][8];
        final TreeMap<String, Integer> did = new TreeMap<>();
        int[] fetching;
        final List<Integer> slips = new ArrayList<>();
        int lost;
        int wrote;

        Run(Prog prog, int more) {
            this.prog = prog;
            aims = prog.aims(more);
            for (int side = 0; side < 2; side++) {
                List<List<String>> rows = new ArrayList<>();
                for (int i = 0; i <= prog.rows.size(); i++) {
                    rows.add(prog.deeds(side, i, aims));
                }
                code.add(rows);
            }
            late = prog.late;
            rooms = prog.rooms.clone();
            cells = prog.cells.clone();
            regs = prog.regs.clone();
            for (int q = 0; q < 6; q++) {
                queues.add(new ArrayDeque<>());
            }
            slips.add(0);
        }

        Run copy() {
            Run c = new Run(prog, -1);
            System.arraycopy(rooms, 0, c.rooms, 0, 6);
            System.arraycopy(cells, 0, c.cells, 0, 32);
            System.arraycopy(regs, 0, c.regs, 0, 8);
            for (int q = 0; q < 6; q++) {
                c.queues.get(q).addAll(queues.get(q));
            }
            c.now = now;
            c.outcome = outcome;
            for (int s = 0; s < 2; s++) {
                c.at[s] = at[s];
                c.next[s] = next[s];
                c.deedsDone[s] = deedsDone[s];
                c.passed[s] = passed[s];
                c.ended[s] = ended[s];
                c.reason[s] = reason[s];
                c.waits[s] = waits[s].clone();
            }
            c.did.putAll(did);
            c.fetching = fetching;
            c.slips.clear();
            c.slips.addAll(slips);
            c.lost = lost;
            c.wrote = wrote;
            return c;
        }

        int slip() {
            return slips.get(slips.size() - 1);
        }

        int[] all() {
            return slips.stream().mapToInt(Integer::intValue).toArray();
        }

        void cycle() {
            now++;
            boolean moved = memory();
            for (int side = 0; side < 2; side++) {
                moved |= tries(side);
            }
            slips.add(passed[0] - passed[1]);
            if (Arrays.asList(5, 6, 7).contains(reason[0])) {
                lost++;
            }
            boolean allCome = queues.get(0).stream().allMatch(l -> now >= l[1] + late);
            if (ended[0] && ended[1] && queues.get(1).isEmpty()) {
                outcome = 1;
            } else if (!moved && fetching == null && allCome) {
                outcome = 2;
            } else if (now == 999) {
                outcome = 3;
            }
        }

        private boolean memory() {
            int[] first = queues.get(1).peek();
            if (first == null || first[1] < 0 && queues.get(2).isEmpty()) {
                return false;
            }
            queues.get(1).remove();
            cells[first[0]] = first[1] >= 0 ? first[1] : queues.get(2).remove()[0];
            wrote++;
            return true;
        }

        private boolean tries(int side) {
            reason[side] = 0;
            if (ended[side]) {
                return false;
            }
            while (code.get(side).get(at[side]).isEmpty()) {
                at[side]++;
                passed[side]++;
            }
            String deed = code.get(side).get(at[side]).get(next[side]);
            String[] w = deed.split(" ");
            reason[side] = side == 0 ? runnerWaits(w) : workerWaits(w);
            if (reason[side] != 0) {
                waits[side][reason[side]]++;
                return false;
            }
            int to = side == 0 ? runnerDoes(w) : workerDoes(w);
            deedsDone[side]++;
            did.merge(side + "/" + at[side] + "/" + next[side], 1, Integer::sum);
            next[side]++;
            if (next[side] == code.get(side).get(at[side]).size()) {
                passed[side]++;
                next[side] = 0;
                if (!ended[side]) {
                    at[side] = to >= 0 ? to : at[side] + 1;
                }
            }
            return true;
        }

        private boolean full(int q) {
            return queues.get(q).size() >= rooms[q];
        }

        private int reg(String r) {
            return regs[r.charAt(0) - 'a'];
        }

        private void setReg(String r, int value) {
            regs[r.charAt(0) - 'a'] = value;
        }

        private int address(String base, String n) {
            return (reg(base) + Integer.parseInt(n)) % 32;
        }

        private boolean waitsToBeWritten(int cell) {
            return queues.get(1).stream().anyMatch(s -> s[0] == cell);
        }

        private int runnerWaits(String[] w) {
            switch (w[0]) {
                case "issue":
                    return waitsToBeWritten(address(w[1], w[2])) ? 6 : full(0) ? 1 : 0;
                case "fetch":
                    if (fetching == null) {
                        int cell = address(w[2], w[3]);
                        if (waitsToBeWritten(cell)) {
                            return 6;
                        }
                        fetching = new int[] {now + late, cells[cell]};
                    }
                    return now < fetching[0] ? 7 : 0;
                case "place": case "put":
                    return full(1) ? 2 : 0;
                case "send":
                    return full(3) ? 3 : 0;
                case "tell":
                    return full(4) ? 4 : 0;
                case "ask":
                    return queues.get(5).isEmpty() ? 5 : 0;
                default:
                    return 0;
            }
        }

        private int runnerDoes(String[] w) {
            switch (w[0]) {
                case "issue":
                    queues.get(0).add(new int[] {cells[address(w[1], w[2])], now});
                    return -1;
                case "fetch":
                    setReg(w[1], fetching[1]);
                    fetching = null;
                    return -1;
                case "place":
                    queues.get(1).add(new int[] {address(w[1], w[2]), -1});
                    return -1;
                case "put":
                    queues.get(1).add(new int[] {address(w[2], w[3]), reg(w[1])});
                    return -1;
                case "send":
                    queues.get(3).add(new int[] {reg(w[1])});
                    return -1;
                case "tell":
                    boolean yes = compare(reg(w[1].substring(0, 1)), w[1].charAt(1), reg(w[1].substring(2)));
                    queues.get(4).add(new int[] {yes ? 1 : 0});
                    return yes ? Integer.parseInt(w[2]) : -1;
                case "ask":
                    return queues.get(5).remove()[0] == 1 ? Integer.parseInt(w[1]) : -1;
                default:
                    return plain(0, w);
            }
        }

        private int plain(int side, String[] w) {
            switch (w[0]) {
                case "jump":
                    return Integer.parseInt(w[1]);
                case "end":
                    ended[side] = true;
                    return -1;
                case "set":
                    setReg(w[1], Integer.parseInt(w[2]));
                    return -1;
                default:
                    int x = side == 0 ? reg(w[2]) : known(w[2]);
                    int y = side == 0 ? reg(w[3]) : known(w[3]);
                    setReg(w[1], reckon(w[0], x, y));
                    return -1;
            }
        }

        private int known(String r) {
            return aims.contains(r.charAt(0)) ? queues.get(3).remove()[0] : reg(r);
        }

        private boolean short_(String... operands) {
            long need = Arrays.stream(operands).filter(r -> aims.contains(r.charAt(0))).count();
            return queues.get(3).size() < need;
        }

        private int workerWaits(String[] w) {
            switch (w[0]) {
                case "get":
                    int[] first = queues.get(0).peek();
                    return first == null || now < first[1] + late ? 1 : 0;
                case "add": case "sub": case "mul":
                    return short_(w[2], w[3]) ? 2 : 0;
                case "heed":
                    return queues.get(4).isEmpty() ? 3 : 0;
                case "give":
                    return full(2) ? 4 : 0;
                case "judge":
                    return short_(w[1].substring(0, 1), w[1].substring(2)) ? 2 : full(5) ? 5 : 0;
                default:
                    return 0;
            }
        }

        private int workerDoes(String[] w) {
            switch (w[0]) {
                case "get":
                    setReg(w[1], queues.get(0).remove()[0]);
                    return -1;
                case "heed":
                    return queues.get(4).remove()[0] == 1 ? Integer.parseInt(w[1]) : -1;
                case "give":
                    queues.get(2).add(new int[] {reg(w[1])});
                    return -1;
                case "judge":
                    int x = known(w[1].substring(0, 1));
                    boolean yes = compare(x, w[1].charAt(1), known(w[1].substring(2)));
                    queues.get(5).add(new int[] {yes ? 1 : 0});
                    return yes ? Integer.parseInt(w[2]) : -1;
                default:
                    return plain(1, w);
            }
        }

        Run toTheEnd() {
            while (outcome == 0) {
                cycle();
            }
            return this;
        }

        int time() {
            return toTheEnd().outcome == 1 ? now : -1;
        }
    }

    static boolean compare(int x, char sign, int y) {
        return sign == '<' ? x < y : sign == '>' ? x > y : x == y;
    }

    static int reckon(String op, int x, int y) {
        int z = op.equals("add") ? x + y : op.equals("sub") ? x - y : x * y;
        return Math.floorMod(z, 1000);
    }

    private static final class Picture {
        String tape;
        int fault;
        int place;
        Run run;
    }

    String tape = "";
    int fault;
    int place = -1;
    Run run = new Run(new Prog(), -1);
    private final Picture[] pictures = new Picture[3];

    int feed(int... numbers) {
        if (tape.length() + 20 > 600) {
            return -1;
        }
        for (int v : numbers) {
            tape += "" + (char) (v >>> 24) + (char) (v >>> 16 & 255) + (char) (v >>> 8 & 255) + (char) (v & 255);
        }
        return tape.length();
    }

    int end(int n) {
        if (n < 0 || n > tape.length()) {
            return -1;
        }
        tape = tape.substring(0, n);
        return n;
    }

    int program() {
        Text text = new Text(tape);
        tape = "";
        fault = text.fault;
        place = text.place;
        if (fault != 0) {
            return -1;
        }
        run = new Run(text.prog, -1);
        return text.prog.rows.size();
    }

    int fault(int what) {
        return what == 0 ? fault : what == 1 ? place : -1;
    }

    int cycles(int n) {
        if (n < 1 || n > 50) {
            return -1;
        }
        int gone = 0;
        for (; gone < n && run.outcome == 0; gone++) {
            run.cycle();
        }
        return gone;
    }

    void begin() {
        run = new Run(run.prog, -1);
    }

    boolean room(int q, int much) {
        if (q < 0 || q > 5 || much < 1 || much > 6) {
            return false;
        }
        run.rooms[q] = much;
        return true;
    }

    int count(int what) {
        return count(run, what);
    }

    private int count(Run r, int what) {
        int[] values = {r.now, r.outcome, r.prog.rows.size(), r.aims.stream().mapToInt(c -> 1 << (c - 'a')).sum(), r.late,
            r.slip(), Arrays.stream(r.all()).max().getAsInt(), Arrays.stream(r.all()).min().getAsInt(),
            Arrays.stream(r.all()).sum(), r.lost, tape.length(), r.wrote};
        return what < 0 || what > 11 ? -1 : values[what];
    }

    int side(int s, int what) {
        if (s < 0 || s > 1 || what < 0) {
            return -1;
        }
        int inAll = run.code.get(s).stream().mapToInt(List::size).sum();
        int[] values = {inAll, run.at[s], run.next[s], run.deedsDone[s], run.passed[s], run.ended[s] ? 1 : 0,
            run.reason[s]};
        return what <= 6 ? values[what] : what >= 11 && what <= 17 ? run.waits[s][what - 10] : -1;
    }

    int deeds(int s, int i) {
        return s < 0 || s > 1 || i < 0 || i > run.prog.rows.size() ? -1 : run.code.get(s).get(i).size();
    }

    int text(int s, int i, int k, int b) {
        if (k < 0 || k >= deeds(s, i)) {
            return -1;
        }
        String t = run.code.get(s).get(i).get(k);
        return b < 0 || b >= t.length() ? -1 : t.charAt(b);
    }

    int did(int s, int i, int k) {
        return k < 0 || k >= deeds(s, i) ? -1 : run.did.getOrDefault(s + "/" + i + "/" + k, 0);
    }

    int queue(int q, int i) {
        if (q < 0 || q > 5) {
            return -2;
        }
        List<int[]> all = new ArrayList<>(run.queues.get(q));
        return i == -1 ? all.size() : i < 0 || i >= all.size() ? -2 : all.get(i)[0];
    }

    int roomOf(int q) {
        return q < 0 || q > 5 ? -1 : run.rooms[q];
    }

    int cell(int c) {
        return c < 0 || c > 31 ? -1 : run.cells[c];
    }

    int register(int r) {
        return r < 0 || r > 7 ? -1 : run.regs[r];
    }

    int alone(int n, int what) {
        if (n < 0 || n > 400) {
            return -1;
        }
        int[] regs = run.prog.regs.clone();
        int[] cells = run.prog.cells.clone();
        int at = 0;
        int steps = 0;
        while (at >= 0 && steps < n) {
            steps++;
            at = step(run.prog.row(at), at, regs, cells);
        }
        if (what >= 10 && what <= 17) {
            return regs[what - 10];
        }
        if (what >= 20 && what <= 51) {
            return cells[what - 20];
        }
        return what == 0 ? steps : what == 1 ? (at < 0 ? 1 : 0) : what == 2 ? at : -1;
    }

    private static int step(List<String> row, int at, int[] regs, int[] cells) {
        int[] r = new int[5];
        for (int i = 1; i < row.size(); i++) {
            char c = row.get(i).charAt(0);
            r[i] = c >= 'a' && c <= 'h' ? c - 'a' : c >= '0' && c <= '9' ? Integer.parseInt(row.get(i)) : 0;
        }
        switch (row.get(0)) {
            case "set":
                regs[r[1]] = r[2];
                return at + 1;
            case "load":
                regs[r[1]] = cells[(regs[r[2]] + r[3]) % 32];
                return at + 1;
            case "store":
                cells[(regs[r[2]] + r[3]) % 32] = regs[r[1]];
                return at + 1;
            case "jump":
                return r[1];
            case "if":
                return compare(regs[r[1]], row.get(2).charAt(0), regs[r[3]]) ? r[4] : at + 1;
            case "end":
                return -1;
            default:
                regs[r[1]] = reckon(row.get(0), regs[r[2]], regs[r[3]]);
                return at + 1;
        }
    }

    int ahead(int n, int what) {
        if (n < 0 || n > 60) {
            return -1;
        }
        Run c = run.copy();
        for (int i = 0; i < n && c.outcome == 0; i++) {
            c.cycle();
        }
        return count(c, what);
    }

    int time() {
        return new Run(run.prog, -1).time();
    }

    int late(int late) {
        if (late < 1 || late > 9) {
            return -1;
        }
        Run r = new Run(run.prog, -1);
        r.late = late;
        return r.time();
    }

    int keeping(int register) {
        return register < 0 || register > 7 ? -1 : new Run(run.prog, register).time();
    }

    int best() {
        int without = time() < 0 ? 1000 : time();
        int best = -1;
        for (int r = 7; r >= 0; r--) {
            int t = keeping(r);
            if (!run.aims.contains((char) ('a' + r)) && t >= 0 && t < without
                && (best < 0 || t <= keeping(best))) {
                best = r;
            }
        }
        return best;
    }

    private Run with(int from, int to, int much) {
        Run r = new Run(run.prog, -1);
        for (int q = from; q <= to; q++) {
            r.rooms[q] = much;
        }
        return r.toTheEnd();
    }

    int least(int q, boolean fast) {
        if (q < 0 || q > 5) {
            return -1;
        }
        int by6 = with(q, q, 6).time();
        for (int much = 1; much <= 6; much++) {
            Run r = with(q, q, much);
            if (fast ? by6 >= 0 && r.time() == by6 : r.outcome != 2) {
                return much;
            }
        }
        return -1;
    }

    int safe() {
        for (int much = 1; much <= 6; much++) {
            if (with(0, 5, much).outcome != 2) {
                return much;
            }
        }
        return -1;
    }

    int rounds(int what) {
        if (what < 0 || what > 2) {
            return -2;
        }
        int n = run.prog.rows.size();
        List<TreeSet<Integer>> reach = new ArrayList<>();
        for (int i = 0; i < n; i++) {
            reach.add(reachable(i));
        }
        int bits = 0;
        for (int i = 0; i < n; i++) {
            boolean inRound = reach.get(i).contains(i);
            boolean roundLoses = false;
            for (int j = 0; j < n; j++) {
                roundLoses |= losing(j) && reach.get(i).contains(j) && reach.get(j).contains(i);
            }
            boolean yes = inRound && (what == 0 || (what == 1 ? roundLoses : losing(i)));
            bits += yes ? 1 << i : 0;
        }
        return bits;
    }

    private boolean losing(int i) {
        return run.code.get(0).get(i).stream().anyMatch(d -> d.startsWith("ask") || d.startsWith("fetch"));
    }

    private TreeSet<Integer> reachable(int from) {
        TreeSet<Integer> seen = new TreeSet<>();
        ArrayDeque<Integer> open = new ArrayDeque<>(List.of(from));
        while (!open.isEmpty()) {
            int i = open.remove();
            List<String> row = run.prog.row(i);
            List<Integer> to = new ArrayList<>();
            if (!row.get(0).equals("end") && !row.get(0).equals("jump")) {
                to.add(i + 1);
            }
            if (row.get(0).equals("if") || row.get(0).equals("jump")) {
                to.add(Integer.parseInt(row.get(row.size() - 1)));
            }
            for (int t : to) {
                if (seen.add(t)) {
                    open.add(t);
                }
            }
        }
        return seen;
    }

    int changed(int c) {
        if (c < 0 || c > 31) {
            return -1;
        }
        Run r = new Run(run.prog, -1);
        while (r.outcome == 0) {
            r.cycle();
            if (r.cells[c] != run.prog.cells[c]) {
                return r.now;
            }
        }
        return -1;
    }

    int slipped(int slip) {
        return new Run(run.prog, -1).toTheEnd().slips.indexOf(slip);
    }

    boolean image(int k) {
        if (k < 0 || k > 2) {
            return false;
        }
        Picture p = new Picture();
        p.tape = tape;
        p.fault = fault;
        p.place = place;
        p.run = run.copy();
        pictures[k] = p;
        return true;
    }

    boolean again(int k) {
        if (k < 0 || k > 2 || pictures[k] == null) {
            return false;
        }
        tape = pictures[k].tape;
        fault = pictures[k].fault;
        place = pictures[k].place;
        run = pictures[k].run.copy();
        return true;
    }

    /** A text by its lines: a token fits if some line that can stand there begins with what the line has so far. */
    private static final class Text {
        final Prog prog = new Prog();
        int fault;
        int place = -1;
        private final List<int[]> faults = new ArrayList<>();
        private final List<String[]> lines = new ArrayList<>();
        private final List<String> known = new ArrayList<>();
        private final List<String> names = new ArrayList<>();

        Text(String tape) {
            for (String s : SETTINGS) {
                lines.add(s.split(" "));
            }
            for (String s : INSTRUCTIONS) {
                lines.add(s.split(" "));
                lines.add(("NAME : " + s).split(" "));
            }
            List<String> words = new ArrayList<>();
            List<Integer> places = new ArrayList<>();
            List<List<String>> allWords = new ArrayList<>();
            List<List<Integer>> allPlaces = new ArrayList<>();
            Matcher m = Pattern.compile("[a-z]+|[0-9]+|[^a-z0-9\n ]", Pattern.DOTALL).matcher(tape);
            while (m.find()) {
                words.add(m.group());
                places.add(m.start());
                if (lines.stream().noneMatch(l -> beginsWith(l, words))) {
                    fault = 1;
                    place = m.start();
                    return;
                }
                if (m.group().equals(";")) {
                    allWords.add(new ArrayList<>(words));
                    allPlaces.add(new ArrayList<>(places));
                    words.clear();
                    places.clear();
                }
            }
            if (!words.isEmpty()) {
                fault = 1;
                place = tape.length();
                return;
            }
            for (int i = 0; i < allWords.size(); i++) {
                collectNames(allWords.get(i));
            }
            for (int i = 0; i < allWords.size(); i++) {
                meaning(allWords.get(i), allPlaces.get(i));
            }
            if (!faults.isEmpty()) {
                Collections.sort(faults, (x, y) -> x[0] != y[0] ? x[0] - y[0] : x[1] - y[1]);
                place = faults.get(0)[0];
                fault = faults.get(0)[1];
            }
        }

        private static boolean beginsWith(String[] line, List<String> words) {
            if (words.size() > line.length) {
                return false;
            }
            for (int i = 0; i < words.size(); i++) {
                if (!fits(line[i], words.get(i))) {
                    return false;
                }
            }
            return true;
        }

        private static boolean fits(String kind, String word) {
            switch (kind) {
                case "N":
                    return word.matches("[0-9]{1,3}");
                case "R":
                    return word.matches("[a-h]");
                case "C":
                    return word.matches("[<=>]");
                case "Q":
                    return Arrays.asList(QUEUE_WORDS).contains(word);
                case "NAME":
                    return word.matches("[a-z]{2,8}") && !QUOTED.contains(word);
                default:
                    return kind.equals(word);
            }
        }

        private void collectNames(List<String> words) {
            if (words.get(1).equals(":")) {
                names.add(words.get(0));
                known.add(words.get(0));
            } else if (QUOTED.indexOf(words.get(0)) >= 5) {
                names.add("");
            }
        }

        private void meaning(List<String> words, List<Integer> places) {
            int start = words.get(1).equals(":") ? 2 : 0;
            if (start == 2) {
                String name = words.get(0);
                if (names.subList(0, prog.rows.size()).contains(name)) {
                    faults.add(new int[] {places.get(0), 3});
                }
            }
            String op = words.get(start);
            List<String> row = new ArrayList<>(words.subList(start, words.size() - 1));
            for (int i = 1; i < row.size(); i++) {
                if (row.get(i).matches("[0-9]+")) {
                    row.set(i, String.valueOf(Integer.parseInt(row.get(i))));
                    range(op, i, Integer.parseInt(row.get(i)), places.get(start + i));
                }
            }
            if (QUOTED.indexOf(op) < 5) {
                if (faults.isEmpty()) {
                    setting(row);
                }
                return;
            }
            if (prog.rows.size() >= 24) {
                faults.add(new int[] {places.get(start), 4});
            }
            if (op.equals("jump") || op.equals("if")) {
                int last = row.size() - 1;
                if (!known.contains(row.get(last))) {
                    faults.add(new int[] {places.get(start + last), 5});
                }
                row.set(last, String.valueOf(names.indexOf(row.get(last))));
            }
            prog.rows.add(row);
        }

        private void range(String op, int i, int n, int at) {
            int low = op.equals("late") || op.equals("room") ? 1 : 0;
            int high = op.equals("late") ? 9 : op.equals("room") ? 6
                : op.equals("load") || op.equals("store") || op.equals("cell") && i == 1 ? 31 : 999;
            if (n < low || n > high) {
                faults.add(new int[] {at, 2});
            }
        }

        private void setting(List<String> row) {
            int last = row.size() > 1 && row.get(row.size() - 1).matches("[0-9]+")
                ? Integer.parseInt(row.get(row.size() - 1)) : 0;
            switch (row.get(0)) {
                case "late":
                    prog.late = last;
                    break;
                case "room":
                    prog.rooms[Arrays.asList(QUEUE_WORDS).indexOf(row.get(1))] = last;
                    break;
                case "cell":
                    prog.cells[Integer.parseInt(row.get(1))] = last;
                    break;
                case "reg":
                    prog.regs[row.get(1).charAt(0) - 'a'] = last;
                    break;
                default:
                    prog.kept.add(row.get(1).charAt(0));
                    break;
            }
        }
    }
}
