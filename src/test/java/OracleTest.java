import java.util.Random;

/** Many runs of calls on the class and on the oracle, with texts of all kinds; the same each time. */
public final class OracleTest {
    private static final int RUNS = 400;
    private static final Check CHECK = new Check();
    private static final String[] WORDS = {"late", "room", "cell", "reg", "keep", "set", "add", "sub", "mul", "load",
        "store", "jump", "if", "end", "loads", "stores", "data", "copies", "told", "asked", "a", "b", "h", "i", "z", "0",
        "7", "31", "32", "999", "1000", "0001", ";", ":", "<", "=", ">", "top", "abcdefgh", "abcdefghi", "ask", "\t", "A"};

    private final Random random;
    private final TwoProcessors x = new TwoProcessors();
    private final Oracle o = new Oracle();

    private OracleTest(long seed) {
        random = new Random(seed);
    }

    public static void main(String[] args) {
        int runs = args.length > 0 ? Integer.parseInt(args[0]) : RUNS;
        long first = args.length > 1 ? Long.parseLong(args[1]) : 0;
        for (int run = 0; run < runs; run++) {
            CHECK.about("run " + (first + run));
            new OracleTest(first + run).go();
        }
        CHECK.finish();
    }

    private void go() {
        for (int part = 0; part < 4; part++) {
            tell(random.nextInt(4) == 0 ? spoilt(text()) : text());
            dearCalls();
            for (int i = 0; i < 55; i++) {
                anyCall();
            }
        }
    }

    private void tell(String text) {
        String cut = text.length() > 600 ? text.substring(0, 600) : text;
        CHECK.due("end(0)", x.end(0), o.end(0));
        int[] fives = Check.fives(cut);
        for (int i = 0; i < fives.length; i += 5) {
            feed(fives[i], fives[i + 1], fives[i + 2], fives[i + 3], fives[i + 4]);
        }
        CHECK.due("end", x.end(cut.length()), o.end(cut.length()));
        CHECK.due("program() of " + cut, x.program(), o.program());
        CHECK.due("fault(0) of " + cut, x.fault(0), o.fault(0));
        CHECK.due("fault(1) of " + cut, x.fault(1), o.fault(1));
    }

    private void feed(int a, int b, int c, int d, int e) {
        CHECK.due("feed", x.feed(a, b, c, d, e), o.feed(a, b, c, d, e));
    }

    private int below(int n) {
        return random.nextInt(n);
    }

    /** A little more than what can be, and now and then something far off. */
    private int near(int low, int high) {
        if (below(60) == 0) {
            return below(2) == 0 ? Integer.MIN_VALUE : Integer.MAX_VALUE;
        }
        return low - 1 + below(high - low + 3);
    }

    private String register() {
        return String.valueOf((char) ('a' + below(below(2) == 0 ? 4 : 8)));
    }

    private String number(int most) {
        int n = below(4) == 0 ? below(most + 1) : below(Math.min(most, 5) + 1);
        String s = String.valueOf(n);
        return below(12) == 0 && s.length() < 3 ? "0" + s : s;
    }

    private String text() {
        return below(2) == 0 ? wildText() : loopText();
    }

    /** A loop that counts a up to e by d; addresses hang on a and g alone, so that both sides have work. */
    private String loopText() {
        StringBuilder all = new StringBuilder();
        all.append("late ").append(1 + below(9)).append(";reg d 1;reg e ").append(1 + below(12)).append(';');
        for (int q = 0; q < 6; q++) {
            if (below(2) == 0) {
                all.append("room ").append(Oracle.QUEUE_WORDS[q]).append(' ').append(1 + below(3)).append(';');
            }
        }
        if (below(3) == 0) {
            all.append("keep e;");
        }
        all.append("go:");
        for (int i = 1 + below(9); i > 0; i--) {
            all.append(work()).append(';');
        }
        all.append("on:add a a d;if ").append(below(2) == 0 ? "a<e" : "e>a").append(" go;");
        for (int i = below(3); i > 0; i--) {
            all.append(work()).append(';');
        }
        return all.toString();
    }

    private String work() {
        String work = String.valueOf("bcfh".charAt(below(4)));
        String other = String.valueOf("abcfh".charAt(below(5)));
        String base = below(5) == 0 ? "g" : "a";
        switch (below(8)) {
            case 0: case 1:
                return "load " + work + " " + base + " " + below(4);
            case 2: case 3:
                return "store " + (below(3) == 0 ? other : work) + " " + base + " " + below(4);
            case 4:
                return "load g " + base + " " + below(4);
            case 5:
                return "if " + other + "<=>".charAt(below(3)) + work + " on";
            case 6:
                return "set " + work + " " + below(1000);
            default:
                return (below(2) == 0 ? "add " : below(2) == 0 ? "sub " : "mul ") + work + " " + other + " " + other;
        }
    }

    private String wildText() {
        StringBuilder all = new StringBuilder();
        if (below(2) == 0) {
            all.append("late ").append(1 + below(9)).append(';');
        }
        for (int i = below(5); i > 0; i--) {
            all.append(setting()).append(gap()).append(';').append(gap());
        }
        int size = below(5) == 0 ? 24 : below(14);
        int names = 1 + below(Math.max(1, size));
        for (int i = 0; i < size; i++) {
            if (i < names) {
                all.append(name(i)).append(gap()).append(':').append(gap());
            }
            all.append(instruction(names)).append(gap()).append(';').append(below(4) == 0 ? "\n" : "");
        }
        if (below(4) == 0) {
            all.append(setting()).append(';');
        }
        return all.toString();
    }

    private String gap() {
        return below(15) == 0 ? " " : "";
    }

    private static String name(int i) {
        return "n" + (char) ('a' + i);
    }

    private String setting() {
        switch (below(6)) {
            case 0:
                return "room " + Oracle.QUEUE_WORDS[below(6)] + " " + (1 + below(6));
            case 1:
                return "room copies 1";
            case 2:
                return "cell " + number(31) + " " + number(999);
            case 3:
                return "keep " + register();
            default:
                return "reg " + register() + " " + number(999);
        }
    }

    private String instruction(int names) {
        String rrr = " " + register() + " " + register() + " ";
        switch (below(16)) {
            case 0: case 1:
                return "set " + register() + " " + number(999);
            case 2: case 3:
                return "add" + rrr + register();
            case 4:
                return "sub" + rrr + register();
            case 5:
                return "mul" + rrr + register();
            case 6: case 7: case 8:
                return "load" + rrr + number(31);
            case 9: case 10: case 11:
                return "store" + rrr + number(31);
            case 12:
                return below(4) == 0 ? "jump " + name(below(names)) : "add" + rrr + register();
            case 13: case 14:
                return "if " + register() + "<=>".charAt(below(3)) + register() + " " + name(below(names));
            default:
                return below(3) == 0 ? "end" : "load" + rrr + number(31);
        }
    }

    private String spoilt(String text) {
        int at = below(text.length() + 1);
        switch (below(7)) {
            case 0:
                return text.substring(0, at);
            case 1:
                return text.substring(0, at) + " " + WORDS[below(WORDS.length)] + " " + text.substring(at);
            case 2:
                return text.substring(0, at) + (char) below(256) + text.substring(at);
            case 3:
                return text + name(below(3)) + ":" + instruction(26) + "; late 0; jump off;";
            case 4:
                return text.replaceAll(" ([0-9]+);", " $1" + below(3) + ";");
            case 5:
                return text + "end;end;add a b c;jump zz;store a b 39;".repeat(1 + below(8)) + (below(2) == 0 ? "zz:end;" : "");
            default:
                int to = Math.min(text.length(), at + 1 + below(4));
                return text.substring(0, at) + text.substring(to);
        }
    }

    private void dearCalls() {
        CHECK.due("time()", x.time(), o.time());
        CHECK.due("best()", x.best(), o.best());
        CHECK.due("safe()", x.safe(), o.safe());
        int q = near(0, 5);
        CHECK.due("least(" + q + ", true)", x.least(q, true), o.least(q, true));
        CHECK.due("least(" + q + ", false)", x.least(q, false), o.least(q, false));
        for (int r = -1; r <= 3; r++) {
            CHECK.due("rounds(" + r + ")", x.rounds(r), o.rounds(r));
        }
    }

    private void anyCall() {
        int p = near(0, 12);
        int q = near(0, 5);
        int s = near(0, 1);
        int i = near(0, Math.max(1, o.count(2)));
        int k = near(0, 1);
        int n = near(0, 60);
        switch (below(27)) {
            case 0:
                CHECK.due("count(" + p + ")", x.count(p), o.count(p));
                break;
            case 1: case 2: case 3:
                CHECK.due("cycles(" + n + ")", x.cycles(n), o.cycles(n));
                everything();
                break;
            case 4: case 5: case 6:
                int few = 1 + below(4);
                CHECK.due("cycles(" + few + ")", x.cycles(few), o.cycles(few));
                everything();
                break;
            case 7:
                if (below(4) == 0) {
                    x.begin();
                    o.begin();
                }
                break;
            case 8:
                int much = near(1, 6);
                CHECK.due("room(" + q + ", " + much + ")", x.room(q, much), o.room(q, much));
                break;
            case 9:
                int w = near(0, 18);
                CHECK.due("side(" + s + ", " + w + ")", x.side(s, w), o.side(s, w));
                break;
            case 10:
                CHECK.due("deeds(" + s + ", " + i + ")", x.deeds(s, i), o.deeds(s, i));
                break;
            case 11:
                int b = near(0, 12);
                CHECK.due("text(" + s + ", " + i + ", " + k + ", " + b + ")", x.text(s, i, k, b), o.text(s, i, k, b));
                break;
            case 12:
                CHECK.due("did(" + s + ", " + i + ", " + k + ")", x.did(s, i, k), o.did(s, i, k));
                break;
            case 13:
                CHECK.due("queue(" + q + ", " + k + ")", x.queue(q, k), o.queue(q, k));
                break;
            case 14:
                CHECK.due("roomOf(" + q + ")", x.roomOf(q), o.roomOf(q));
                break;
            case 15:
                int c = near(0, 31);
                CHECK.due("cell(" + c + ")", x.cell(c), o.cell(c));
                CHECK.due("changed(" + c + ")", x.changed(c), o.changed(c));
                break;
            case 16:
                int r = near(0, 7);
                CHECK.due("register(" + r + ")", x.register(r), o.register(r));
                CHECK.due("keeping(" + r + ")", x.keeping(r), o.keeping(r));
                break;
            default:
                otherCall(p, k);
                break;
        }
    }

    private void otherCall(int p, int k) {
        switch (below(10)) {
            case 0: case 1:
                int n = near(0, below(2) == 0 ? 20 : 400);
                int what = near(0, 52);
                CHECK.due("alone(" + n + ", " + what + ")", x.alone(n, what), o.alone(n, what));
                break;
            case 2: case 3:
                int m = near(0, below(2) == 0 ? 6 : 60);
                CHECK.due("ahead(" + m + ", " + p + ")", x.ahead(m, p), o.ahead(m, p));
                break;
            case 4:
                int l = near(1, 9);
                CHECK.due("late(" + l + ")", x.late(l), o.late(l));
                break;
            case 5:
                int slip = near(-6, 8);
                CHECK.due("slipped(" + slip + ")", x.slipped(slip), o.slipped(slip));
                break;
            case 6:
                int i = near(0, 2);
                CHECK.due("image(" + i + ")", x.image(i), o.image(i));
                break;
            case 7:
                if (below(3) == 0) {
                    int j = near(0, 2);
                    CHECK.due("again(" + j + ")", x.again(j), o.again(j));
                    everything();
                }
                break;
            case 8:
                feed(random.nextInt(), random.nextInt(), 32, 1667591276, -1);
                break;
            default:
                int e = near(0, 40);
                CHECK.due("end(" + e + ")", x.end(e), o.end(e));
                CHECK.due("fault(" + k + ")", x.fault(k), o.fault(k));
                break;
        }
    }

    private void everything() {
        for (int w = -1; w <= 12; w++) {
            CHECK.due("count(" + w + ")", x.count(w), o.count(w));
        }
        for (int s = 0; s < 2; s++) {
            for (int w = 0; w <= 18; w++) {
                CHECK.due("side(" + s + ", " + w + ")", x.side(s, w), o.side(s, w));
            }
            for (int i = 0; i <= o.count(2) + 1; i++) {
                for (int k = 0; k < 2; k++) {
                    CHECK.due("did(" + s + ", " + i + ", " + k + ")", x.did(s, i, k), o.did(s, i, k));
                }
            }
        }
        for (int q = 0; q < 6; q++) {
            for (int i = -1; i < 7; i++) {
                CHECK.due("queue(" + q + ", " + i + ")", x.queue(q, i), o.queue(q, i));
            }
        }
        for (int c = 0; c < 32; c++) {
            CHECK.due("cell(" + c + ")", x.cell(c), o.cell(c));
        }
        for (int r = 0; r < 8; r++) {
            CHECK.due("register(" + r + ")", x.register(r), o.register(r));
        }
    }
}
