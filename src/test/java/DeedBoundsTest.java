/** The bounds of reckoning, of ALONE, of AIMS and of DEEDS, as the document's terms 1 and 2 name them. */
public final class DeedBoundsTest {
    private static final int NONE = TwoProcessors.NONE;
    private static final Check CHECK = new Check();

    public static void main(String[] args) {
        reckoning();
        orderOfWhatIsReckoned();
        cells();
        comparing();
        ends();
        stepsOf400();
        aimsAreTheFewest();
        aimsOfAims();
        splitOfReckoning();
        splitOfMemory();
        splitOfIf();
        splitOfJumpAndEnd();
        all24();
        numbersInTexts();
        CHECK.finish();
    }

    private static TwoProcessors toTheEnd(String text) {
        TwoProcessors x = Check.of(text);
        x.cycles(50);
        CHECK.due("DONE: " + text, x.count(1), 1);
        return x;
    }

    /** Done by one alone, by the worker, by the runner, and by the worker with copies of one or both. */
    private static void reckons(String op, int one, int other, int due) {
        String text = "reg b " + one + ";reg c " + other + ";" + op + " a b c;";
        CHECK.due("alone: " + text, Check.of(text).alone(1, 10), due);
        for (String kept : new String[] {"", "keep a;", "keep b;", "keep c;", "keep b;keep c;"}) {
            CHECK.due(kept + text, toTheEnd(kept + text).register(0), due);
        }
    }

    private static void reckoning() {
        CHECK.about("'all reckoning is modulo 1000 (what is below 0 comes round: 2 less 3 is 999)'");
        reckons("add", 0, 0, 0);
        reckons("add", 500, 499, 999);
        reckons("add", 500, 500, 0);
        reckons("add", 1, 999, 0);
        reckons("add", 999, 999, 998);
        reckons("sub", 2, 3, 999);
        reckons("sub", 3, 3, 0);
        reckons("sub", 3, 2, 1);
        reckons("sub", 0, 1, 999);
        reckons("sub", 0, 999, 1);
        reckons("sub", 999, 0, 999);
        reckons("sub", 999, 999, 0);
        reckons("mul", 0, 999, 0);
        reckons("mul", 37, 27, 999);
        reckons("mul", 25, 40, 0);
        reckons("mul", 7, 143, 1);
        reckons("mul", 999, 999, 1);
        reckons("mul", 999, 1, 999);
    }

    private static void orderOfWhatIsReckoned() {
        CHECK.about("'the first R becomes the second one and, less, times the third one'");
        reckons("sub", 7, 2, 5);
        reckons("sub", 2, 7, 995);
        String regs = "reg a 3;reg b 5;";
        CHECK.due("a of a and b", toTheEnd(regs + "sub a a b;").register(0), 998);
        CHECK.due("a of b and a", toTheEnd(regs + "sub a b a;").register(0), 2);
        CHECK.due("a of a and a", toTheEnd(regs + "add a a a;").register(0), 6);
        CHECK.due("b stays", toTheEnd(regs + "sub a b a;").register(1), 5);
        CHECK.due("the runner's a of a and a", toTheEnd("keep a;" + regs + "mul a a a;").register(0), 9);
        CHECK.due("of two copies of one", toTheEnd("keep a;" + regs + "sub c a a;").register(2), 0);
        CHECK.due("of two copies of one", toTheEnd("keep a;" + regs + "mul c a a;").register(2), 9);
        CHECK.due("set to 0", toTheEnd(regs + "set a 0;").register(0), 0);
        CHECK.due("set to 999", toTheEnd("keep a;" + regs + "set a 999;").register(0), 999);
        CHECK.due("alone, set to 999", Check.of(regs + "set a 999;").alone(1, 10), 999);
    }

    /** The cell of S and N: loaded and stored by one alone, by the worker, and by the runner. */
    private static void cellOf(int s, int n, int due) {
        String load = "reg c " + s + ";cell " + due + " 77;load b c " + n + ";";
        String store = "reg c " + s + ";reg b 77;store b c " + n + ";";
        CHECK.due("alone: " + load, Check.of(load).alone(1, 11), 77);
        CHECK.due("alone: " + store, Check.of(store).alone(1, 20 + due), 77);
        CHECK.due(load, toTheEnd(load).register(1), 77);
        CHECK.due(store, toTheEnd(store).cell(due), 77);
        CHECK.due("keep b;" + load, toTheEnd("keep b;" + load).register(1), 77);
        CHECK.due("keep b;" + store, toTheEnd("keep b;" + store).cell(due), 77);
        TwoProcessors x = Check.of("late 9;load d a 0;" + store);
        x.cycles(2);
        CHECK.due("queue(1, 0) of " + store, x.queue(1, 0), due);
    }

    private static void cells() {
        CHECK.about("'the CELL S and N (modulo 32)'");
        cellOf(0, 0, 0);
        cellOf(0, 31, 31);
        cellOf(1, 30, 31);
        cellOf(1, 31, 0);
        cellOf(31, 0, 31);
        cellOf(31, 1, 0);
        cellOf(31, 31, 30);
        cellOf(32, 0, 0);
        cellOf(32, 31, 31);
        cellOf(33, 31, 0);
        cellOf(991, 0, 31);
        cellOf(992, 0, 0);
        cellOf(999, 0, 7);
        cellOf(999, 24, 31);
        cellOf(999, 25, 0);
        // 1030 is 6 modulo 32; no register holds it, so it is not reckoned modulo 1000 first.
        cellOf(999, 31, 6);
    }

    private static void decides(int one, char sign, int other, boolean yes) {
        String text = "reg b " + one + ";reg c " + other + ";if b" + sign + "c yes;set d 1;end;yes:set d 2;";
        int due = yes ? 2 : 1;
        CHECK.due("alone: " + text, Check.of(text).alone(400, 13), due);
        CHECK.due("alone, steps: " + text, Check.of(text).alone(400, 0), 3);
        for (String kept : new String[] {"", "keep b;", "keep c;", "keep b;keep c;", "keep d;", "keep b;keep c;keep d;"}) {
            TwoProcessors x = toTheEnd(kept + text);
            CHECK.due(kept + text, x.register(3), due);
            CHECK.due("where the runner ended: " + kept + text, x.did(0, yes ? 4 : 2, 0), 1);
            CHECK.due("where the worker ended: " + kept + text, x.did(1, yes ? 4 : 2, 0), 1);
        }
    }

    private static void comparing() {
        CHECK.about("'if: to the NAME, if the first is less than, like, more than the second one'");
        int[][] pairs = {{4, 5}, {5, 5}, {5, 4}, {0, 0}, {0, 999}, {999, 0}, {999, 999}};
        for (int[] pair : pairs) {
            decides(pair[0], '<', pair[1], pair[0] < pair[1]);
            decides(pair[0], '=', pair[1], pair[0] == pair[1]);
            decides(pair[0], '>', pair[1], pair[0] > pair[1]);
        }
        String same = "reg b 5;if b%b yes;set d 1;end;yes:set d 2;";
        CHECK.due("b<b", toTheEnd(same.replace('%', '<')).register(3), 1);
        CHECK.due("b=b", toTheEnd(same.replace('%', '=')).register(3), 2);
        CHECK.due("b>b", toTheEnd("keep b;" + same.replace('%', '>')).register(3), 1);
        CHECK.due("to the next one, yes or no", toTheEnd("if a=a on;on:set d 3;").register(3), 3);
    }

    private static void alone(String text, int n, int steps, int ended, int next) {
        TwoProcessors x = Check.of(text);
        CHECK.due("alone(" + n + ", 0) of " + text, x.alone(n, 0), steps);
        CHECK.due("alone(" + n + ", 1) of " + text, x.alone(n, 1), ended);
        CHECK.due("alone(" + n + ", 2) of " + text, x.alone(n, 2), next);
    }

    private static void ends() {
        CHECK.about("'end: no STEP comes behind it (itself, it is one; so is the place behind the last one)'");
        alone("", 0, 0, 0, 0);
        alone("", 1, 1, 1, NONE);
        alone("", 400, 1, 1, NONE);
        alone("end;", 0, 0, 0, 0);
        alone("end;", 1, 1, 1, NONE);
        alone("end;set a 5;", 400, 1, 1, NONE);
        alone("set a 5;", 1, 1, 0, 1);
        alone("set a 5;", 2, 2, 1, NONE);
        alone("set a 5;", 3, 2, 1, NONE);
        alone("set a 5;end;", 2, 2, 1, NONE);
        alone("end;".repeat(24), 400, 1, 1, NONE);
        alone("set a 1;".repeat(24), 24, 24, 0, 24);
        alone("set a 1;".repeat(24), 25, 25, 1, NONE);
        CHECK.due("nothing behind it is done", Check.of("end;set a 5;").alone(400, 10), 0);
        alone("aa:jump aa;", 400, 400, 0, 0);
    }

    private static void stepsOf400() {
        CHECK.about("'n STEPS from the beginning, 0 .. 400, or fewer, if it ends'");
        // Two steps a round, and an end.
        String loop = "reg b 199;reg c 1;%up:add a a c;if a<b up;";
        alone(loop.replace("%", ""), 398, 398, 0, 2);
        alone(loop.replace("%", ""), 399, 399, 1, NONE);
        alone(loop.replace("%", ""), 400, 399, 1, NONE);
        alone(loop.replace("%", "set d 1;"), 399, 399, 0, 3);
        alone(loop.replace("%", "set d 1;"), 400, 400, 1, NONE);
        alone(loop.replace("%", "set d 1;set d 2;"), 400, 400, 0, 4);
        alone(loop.replace("%", "set d 1;set d 2;"), 401, NONE, NONE, NONE);
        alone(loop.replace("%", ""), -1, NONE, NONE, NONE);
        CHECK.due("a behind 400", Check.of(loop.replace("%", "")).alone(400, 10), 199);
        CHECK.due("a behind 3", Check.of(loop.replace("%", "")).alone(3, 10), 2);
        CHECK.due("a behind 2", Check.of(loop.replace("%", "")).alone(2, 10), 1);
    }

    private static void aims(String text, String due) {
        int bits = 0;
        for (int i = 0; i < due.length(); i++) {
            bits |= 1 << (due.charAt(i) - 'a');
        }
        CHECK.due("AIMS of " + text, Check.of(text).count(3), bits);
    }

    private static void aimsAreTheFewest() {
        CHECK.about("'AIMS: the fewest REGISTERS with: those that are kept; each S of load, store; ..'");
        aims("", "");
        aims("set a 1;add b c d;sub c d e;mul d e f;if g<h on;on:end;", "");
        aims("keep a;", "a");
        aims("keep h;", "h");
        aims("keep a;keep b;keep c;keep d;keep e;keep f;keep g;keep h;", "abcdefgh");
        aims("load a b 0;", "b");
        aims("store a b 0;", "b");
        aims("load a a 0;", "a");
        aims("load a b 0;load b c 0;", "bc");
        aims("store a b 0;load c d 0;", "bd");
        aims("end;load a b 0;", "b");
        aims("keep a;set a 5;if a<b on;on:end;", "a");
        aims("keep a;load a b 0;", "ab");
        aims("keep a;store a b 0;", "ab");
    }

    private static void aimsOfAims() {
        CHECK.about("'.. and of each add, sub, mul of which the first R is in AIMS the other two'");
        for (String op : new String[] {"add", "sub", "mul"}) {
            aims(op + " a b c;", "");
            aims("keep a;" + op + " a b c;", "abc");
            aims("keep b;keep c;" + op + " a b c;", "bc");
            aims(op + " a b c;load d a 0;", "abc");
            aims("load d a 0;" + op + " a b c;", "abc");
            aims(op + " a a a;store d a 0;", "a");
        }
        aims("keep a;add b a c;", "a");
        // One brings the next, against the order in which they stand, and in it.
        aims("add g h h;sub f g g;mul e f f;add d e e;sub c d d;mul b c c;add a b b;load h a 0;", "abcdefgh");
        aims("load h a 0;add a b b;mul b c c;sub c d d;add d e e;mul e f f;sub f g g;add g h h;", "abcdefgh");
        aims("add g h h;sub f g g;mul e f f;add c d d;mul b c c;add a b b;load h a 0;", "abcd");
    }

    private static void code(String text, String runner, String worker) {
        TwoProcessors x = Check.of(text);
        CHECK.due("runner of " + text, Check.code(x, 0), runner + "|end");
        CHECK.due("worker of " + text, Check.code(x, 1), worker + "|end");
    }

    private static void splitOfReckoning() {
        CHECK.about("'set, add, sub, mul R ..: R in AIMS: the RUNNER's .. Else \"send S\" for S, then for T, if they are in AIMS'");
        code("set a 5;", "", "set a 5");
        code("keep a;set a 5;", "set a 5", "");
        code("set a 5;load b a 0;", "set a 5|issue a 0", "|get b");
        code("add a b c;set b 5;set c 6;store d a 0;", "add a b c|set b 5|set c 6|place a 0", "|||give d");
        for (String op : new String[] {"add", "sub", "mul"}) {
            String abc = op + " a b c";
            code(abc + ";", "", abc);
            code("keep a;" + abc + ";", abc, "");
            code("keep b;" + abc + ";", "send b", abc);
            code("keep c;" + abc + ";", "send c", abc);
            code("keep c;keep b;" + abc + ";", "send b,send c", abc);
            code("keep b;" + op + " a b b;", "send b,send b", op + " a b b");
            code("keep b;" + op + " a a b;", "send b", op + " a a b");
            code("keep b;" + op + " a b a;", "send b", op + " a b a");
        }
    }

    private static void splitOfMemory() {
        CHECK.about("'load R S N: R in AIMS: \"fetch R S N\"; nothing. Else \"issue S N\"; \"get R\". store ..'");
        code("load a b 0;", "issue b 0", "get a");
        code("keep a;load a b 0;", "fetch a b 0", "");
        code("load a a 31;", "fetch a a 31", "");
        code("store a b 0;", "place b 0", "give a");
        code("keep a;store a b 0;", "put a b 0", "");
        code("store h h 31;", "put h h 31", "");
    }

    private static void splitOfIf() {
        CHECK.about("'if R < S: both in AIMS: \"tell R<S K\"; \"heed K\". Else \"send\" for R, then for S, .. and \"ask K\"; \"judge R<S K\"'");
        for (char sign : new char[] {'<', '=', '>'}) {
            String ab = "on:if a" + sign + "b on;";
            String told = "a" + sign + "b 0";
            code(ab, "ask 0", "judge " + told);
            code("keep a;" + ab, "send a,ask 0", "judge " + told);
            code("keep b;" + ab, "send b,ask 0", "judge " + told);
            code("keep a;keep b;" + ab, "tell " + told, "heed 0");
            code("keep a;on:if a" + sign + "a on;", "tell a" + sign + "a 0", "heed 0");
            code("on:if a" + sign + "a on;", "ask 0", "judge a" + sign + "a 0");
        }
    }

    private static void splitOfJumpAndEnd() {
        CHECK.about("'jump: \"jump K\" .. of both. end: \"end\" of both (so is the one behind the last INSTRUCTION, told as one more)'");
        code("on:jump on;", "jump 0", "jump 0");
        code("end;", "end", "end");
        TwoProcessors x = Check.of("end;".repeat(24));
        for (int side = 0; side < 2; side++) {
            CHECK.due("deeds(" + side + ", 23)", x.deeds(side, 23), 1);
            CHECK.due("deeds(" + side + ", 24)", x.deeds(side, 24), 1);
            CHECK.due("deeds(" + side + ", 25)", x.deeds(side, 25), NONE);
            CHECK.due("side(" + side + ", 0)", x.side(side, 0), 25);
            CHECK.due("text of the one more", Check.deed(x, side, 24, 0), "end");
            CHECK.due("deeds(" + side + ", 0) of nothing", new TwoProcessors().deeds(side, 0), 1);
            CHECK.due("deeds(" + side + ", 1) of nothing", new TwoProcessors().deeds(side, 1), NONE);
            CHECK.due("side(" + side + ", 0) of nothing", new TwoProcessors().side(side, 0), 1);
        }
    }

    private static void all24() {
        CHECK.about("'INSTRUCTIONS, at most 24, are numbered from 0 on': each kind of DEED in the first and in the last of them");
        String[] rows = {"add c a b", "mul c b b", "load c b 3", "load b b 3", "store c b 3", "store b b 3", "if b<b on", "if b<c on",
            "if c>b on", "set c 7", "set b 7", "sub b b a"};
        String[] runners = {"send a,send b", "send b,send b", "issue b 3", "fetch b b 3", "place b 3", "put b b 3", "tell b<b 23",
            "send b,ask 23", "send b,ask 23", "", "set b 7", "sub b b a"};
        String[] workers = {"add c a b", "mul c b b", "get c", "", "give c", "", "heed 23", "judge b<c 23", "judge c>b 23", "set c 7", "", ""};
        for (int i = 0; i < rows.length; i++) {
            TwoProcessors x = Check.of("reg a 2;reg b 3;reg c 5;cell 6 9;keep a;keep b;" + (rows[i] + ";").repeat(23) + "on:" + rows[i] + ";");
            for (int at : new int[] {0, 12, 23}) {
                CHECK.due("runner at " + at, deedsOf(x, 0, at), runners[i]);
                CHECK.due("worker at " + at, deedsOf(x, 1, at), workers[i]);
            }
            for (int k = 0; k < 19; k++) {
                x.cycles(50);
            }
            if (x.alone(400, 1) == 1) {
                CHECK.due("DONE, of " + rows[i], x.count(1), 1);
                CHECK.due("b as by one alone, of " + rows[i], x.register(1), x.alone(400, 11));
                CHECK.due("c as by one alone, of " + rows[i], x.register(2), x.alone(400, 12));
                CHECK.due("a cell as by one alone, of " + rows[i], x.cell(6), x.alone(400, 26));
            }
        }
    }

    private static String deedsOf(TwoProcessors x, int side, int at) {
        StringBuilder all = new StringBuilder();
        for (int k = 0; k < x.deeds(side, at); k++) {
            all.append(k > 0 ? "," : "").append(Check.deed(x, side, at, k));
        }
        return all.toString();
    }

    private static void numbersInTexts() {
        CHECK.about("'(These words, blanks, NUMBERS without 0 ahead, are the DEED's text.)'");
        code("set a 000;set a 001;set a 010;set a 099;set a 100;set a 999;", "|||||",
            "set a 0|set a 1|set a 10|set a 99|set a 100|set a 999");
        code("load a b 00;load b b 031;store a b 007;store b b 010;", "issue b 0|fetch b b 31|place b 7|put b b 10", "get a||give a|");
        TwoProcessors x = Check.of("keep a;set a 999;");
        CHECK.due("text(0, 0, 0, 0)", x.text(0, 0, 0, 0), 's');
        CHECK.due("text(0, 0, 0, 3)", x.text(0, 0, 0, 3), ' ');
        CHECK.due("text(0, 0, 0, 8)", x.text(0, 0, 0, 8), '9');
        CHECK.due("text(0, 0, 0, 9)", x.text(0, 0, 0, 9), NONE);
        CHECK.due("text(0, 0, 0, -1)", x.text(0, 0, 0, -1), NONE);
    }
}
