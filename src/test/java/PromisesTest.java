/** The promises of the document one by one; what is due was reckoned by hand. */
public final class PromisesTest {
    private static final int NONE = TwoProcessors.NONE;
    private static final int LOW = Integer.MIN_VALUE;
    private static final int HIGH = Integer.MAX_VALUE;
    private static final Check CHECK = new Check();

    /** A load and a store: done at 6, with slips 1 2 3 2 1 0. */
    private static final String COPY = "cell 1 7;load b a 1;store b a 2;";
    /** A loop of which both sides of the comparison are the runner's: done at 5. */
    private static final String TELLS = "keep a;keep b;reg b 2;reg c 1;up:add a a c;if a<b up;";
    /** The same loop, all the worker's: done at 6, with slips 0 -1 -1 -1 -1 0. */
    private static final String ASKS = "reg b 2;reg c 1;up:add a a c;if a<b up;";
    /** The worker wants two copies at once; there is room for one. */
    private static final String STUCK = "room copies 1;load f a 0;add g a a;";
    private static final String FOREVER = "up:add b b b;jump up;";

    public static void main(String[] args) {
        newObject();
        feed();
        end();
        program();
        faultsOfTheText();
        otherFaults();
        cycles();
        begin();
        room();
        count();
        side();
        deedsAndTexts();
        did();
        queue();
        roomOf();
        cellAndRegister();
        memory();
        alone();
        ahead();
        time();
        late();
        keepingAndBest();
        least();
        safe();
        rounds();
        changed();
        slipped();
        images();
        CHECK.finish();
    }

    private static void newObject() {
        CHECK.about("promise 1, a new object");
        TwoProcessors x = new TwoProcessors();
        int[] counts = {0, 0, 0, 0, 3, 0, 0, 0, 0, 0, 0, 0};
        for (int what = 0; what < counts.length; what++) {
            CHECK.due("count(" + what + ")", x.count(what), counts[what]);
        }
        CHECK.due("runner", Check.code(x, 0), "end");
        CHECK.due("worker", Check.code(x, 1), "end");
        CHECK.due("fault(0)", x.fault(0), 0);
        CHECK.due("fault(1)", x.fault(1), NONE);
        for (int q = 0; q < 6; q++) {
            CHECK.due("roomOf(" + q + ")", x.roomOf(q), 4);
        }
        for (int k = 0; k < 3; k++) {
            CHECK.due("again(" + k + ")", x.again(k), false);
        }
        CHECK.due("time()", x.time(), 1);
        CHECK.due("alone(400, 0)", x.alone(400, 0), 1);
        CHECK.due("cycles(50)", x.cycles(50), 1);
        CHECK.due("count(1)", x.count(1), 1);
    }

    private static void feed() {
        CHECK.about("promise 2, feed");
        TwoProcessors x = new TwoProcessors();
        CHECK.due("feed", x.feed(0x73657420, 0x61203537, 0x3b656e64, 0x3b202020, 0x20202020), 20);
        CHECK.due("program()", x.program(), 2);
        CHECK.due("its text", Check.deed(x, 1, 0, 0), "set a 57");
        for (int i = 1; i <= 30; i++) {
            CHECK.due("feed", x.feed(LOW, HIGH, 0, -1, 1), i * 20);
        }
        CHECK.due("feed, full", x.feed(1, 2, 3, 4, 5), NONE);
        CHECK.due("count(10)", x.count(10), 600);
        x.end(581);
        CHECK.due("feed, 581", x.feed(1, 2, 3, 4, 5), NONE);
        CHECK.due("count(10)", x.count(10), 581);
        x.end(580);
        CHECK.due("feed, 580", x.feed(1, 2, 3, 4, 5), 600);
        x.end(0);
        x.feed(0x656e643b, 0xff202020, 0, 0, 0);
        CHECK.due("program() with a byte 255", x.program(), NONE);
        CHECK.due("fault(1)", x.fault(1), 4);
    }

    private static void end() {
        CHECK.about("promise 3, end");
        TwoProcessors x = new TwoProcessors();
        CHECK.due("end(0)", x.end(0), 0);
        CHECK.due("end(1)", x.end(1), NONE);
        Check.write(x, "end;end;end;");
        CHECK.due("end(13)", x.end(13), NONE);
        CHECK.due("end(-1)", x.end(-1), NONE);
        CHECK.due("end(HIGH)", x.end(HIGH), NONE);
        CHECK.due("end(LOW)", x.end(LOW), NONE);
        CHECK.due("count(10)", x.count(10), 12);
        CHECK.due("end(12)", x.end(12), 12);
        CHECK.due("end(8)", x.end(8), 8);
        CHECK.due("program()", x.program(), 2);
        CHECK.due("end(1) behind it", x.end(1), NONE);
        Check.write(x, "late 1234");
        x.end(8);
        x.program();
        CHECK.due("fault(1), what was cut off is gone", x.fault(1), 8);
        Check.write(x, "abcdefghi");
        x.end(8);
        x.program();
        CHECK.due("fault(1), what was cut off is gone", x.fault(1), 8);
    }

    private static void program() {
        CHECK.about("promise 4, program");
        TwoProcessors x = Check.of(COPY);
        CHECK.due("count(10)", x.count(10), 0);
        x.cycles(3);
        x.room(2, 5);
        Check.write(x, "late 0;");
        CHECK.due("program() with a fault", x.program(), NONE);
        CHECK.due("count(10)", x.count(10), 0);
        CHECK.due("count(0), as it was", x.count(0), 3);
        CHECK.due("count(2), as it was", x.count(2), 2);
        CHECK.due("roomOf(2), as it was", x.roomOf(2), 5);
        CHECK.due("time(), as it was", x.time(), 6);
        CHECK.due("another", Check.take(x, "late 9;late 4;room data 1;room data 3;cell 4 1;cell 4 2;reg h 5;reg h 6;end;"), 1);
        CHECK.due("count(0)", x.count(0), 0);
        CHECK.due("later ones strike: late", x.count(4), 4);
        CHECK.due("later ones strike: room", x.roomOf(2), 3);
        CHECK.due("later ones strike: cell", x.cell(4), 2);
        CHECK.due("later ones strike: reg", x.register(7), 6);
        CHECK.due("cells of the one before", x.cell(1), 0);
        CHECK.due("nothing", Check.take(x, " \n "), 0);
        CHECK.due("late is 3 again", x.count(4), 3);
        CHECK.due("room is 4 again", x.roomOf(2), 4);
        CHECK.due("24", Check.take(x, "end;".repeat(24)), 24);
        CHECK.due("settings behind", Check.take(x, "load f a 0;cell 0 9;late 1;keep f;"), 1);
        CHECK.due("AIMS", x.count(3), 33);
        CHECK.due("keeps stand side by side", Check.take(x, "keep a;keep c;keep a;"), 0);
        CHECK.due("AIMS", x.count(3), 5);
    }

    private static void fault(String text, int fault, int place) {
        TwoProcessors x = new TwoProcessors();
        int size = Check.take(x, text);
        CHECK.due("fault(0) of " + text, x.fault(0), fault);
        CHECK.due("fault(1) of " + text, x.fault(1), place);
        CHECK.due("program() of " + text + " is NONE", size == NONE, fault != 0);
    }

    private static void faultsOfTheText() {
        CHECK.about("promise 5, fault 1");
        fault("end", 1, 3);
        fault("end\n ", 1, 5);
        fault(" end ; ", 0, NONE);
        fault("\tend;", 1, 0);
        fault("END;", 1, 0);
        fault(";", 1, 0);
        fault("end;;", 1, 4);
        fault("set a 5", 1, 7);
        fault("set a1;", 0, NONE);
        fault("seta 1;", 1, 5);
        fault("set i 1;", 1, 4);
        fault("set a 0999;", 1, 6);
        fault("set a 999;", 0, NONE);
        fault("set a b;", 1, 6);
        fault("loads:end;", 1, 0);
        fault("set:end;", 1, 3);
        fault("send:jump send;", 0, NONE);
        fault("ab :\nend;", 0, NONE);
        fault("ab:cd:end;", 1, 3);
        fault("ab;", 1, 2);
        fault("a:end;", 1, 0);
        fault("abcdefgh:jump abcdefgh;", 0, NONE);
        fault("jump abcdefghi;", 1, 5);
        fault("jump a;", 1, 5);
        fault("keep k;", 1, 5);
        fault("keep 1;", 1, 5);
        fault("room late 1;", 1, 5);
        fault("room x 1;", 1, 5);
        fault("aa:if a;b aa;", 1, 7);
        fault("aa:if a:b aa;", 1, 7);
        fault("aa:if a = b aa;if a>b aa;if a<b aa;", 0, NONE);
        fault("late 0;late", 1, 11);
        fault("late 0;jump off;#", 1, 16);
        fault("cell 1 2 3;", 1, 9);
        fault("go:keep a;", 1, 3);
    }

    private static void otherFaults() {
        CHECK.about("promise 5, faults 2 to 5");
        fault("late 9;late 1;", 0, NONE);
        fault("late 10;", 2, 5);
        fault("late 000;", 2, 5);
        fault("room asked 6;room loads 1;", 0, NONE);
        fault("room asked 0;", 2, 11);
        fault("room told 7;", 2, 10);
        fault("cell 31 999;cell 0 0;", 0, NONE);
        fault("cell 32 999;", 2, 5);
        fault("load a b 31;store a b 0;", 0, NONE);
        fault("load a b 32;", 2, 9);
        fault("store a b 032;", 2, 10);
        fault("aa:end;bb:end;aa:end;bb:end;", 3, 14);
        fault("jump off;late 0;", 5, 5);
        fault("late 0;jump off;", 2, 5);
        fault("if a<b off;", 5, 7);
        fault("jump on;if a<b off;on:end;", 5, 15);
        fault("end;".repeat(25), 4, 96);
        fault("end;".repeat(24) + "aa:end;", 4, 99);
        fault("aa:end;" + "end;".repeat(23) + "aa:end;", 3, 99);
        fault("jump zz;" + "end;".repeat(23) + "zz:end;", 4, 103);
        fault("jump zz;" + "end;".repeat(24), 5, 5);
        fault("end;".repeat(24) + "load a a 99;", 4, 96);
        fault("end;".repeat(150), 4, 96);
        TwoProcessors x = new TwoProcessors();
        Check.take(x, "late 0;");
        CHECK.due("fault(2)", x.fault(2), NONE);
        CHECK.due("fault(-1)", x.fault(-1), NONE);
        CHECK.due("fault(0)", x.fault(0), 2);
        Check.take(x, "");
        CHECK.due("fault(0), the latest", x.fault(0), 0);
        CHECK.due("fault(1), the latest", x.fault(1), NONE);
    }

    private static void cycles() {
        CHECK.about("promise 6, cycles");
        TwoProcessors x = Check.of(COPY);
        for (int n : new int[] {0, -1, 51, LOW, HIGH}) {
            CHECK.due("cycles(" + n + ")", x.cycles(n), NONE);
        }
        CHECK.due("count(0)", x.count(0), 0);
        CHECK.due("cycles(1)", x.cycles(1), 1);
        CHECK.due("cycles(4)", x.cycles(4), 4);
        CHECK.due("count(1)", x.count(1), 0);
        CHECK.due("cycles(50)", x.cycles(50), 1);
        CHECK.due("count(1)", x.count(1), 1);
        CHECK.due("cycles(50), DONE", x.cycles(50), 0);
        x = Check.of(FOREVER);
        for (int i = 0; i < 19; i++) {
            CHECK.due("cycles(50)", x.cycles(50), 50);
        }
        CHECK.due("cycles(50) to 999", x.cycles(50), 49);
        CHECK.due("count(1)", x.count(1), 3);
        CHECK.due("cycles(1) behind 999", x.cycles(1), 0);
    }

    private static void begin() {
        CHECK.about("promise 7, begin");
        TwoProcessors x = Check.of("room stores 2;" + COPY);
        x.room(1, 6);
        x.cycles(50);
        CHECK.due("cell(2)", x.cell(2), 7);
        x.begin();
        for (int what : new int[] {0, 1, 5, 6, 7, 8, 9, 11}) {
            CHECK.due("count(" + what + ")", x.count(what), 0);
        }
        for (int what : new int[] {1, 2, 3, 4, 5, 6, 11}) {
            CHECK.due("side(1, " + what + ")", x.side(1, what), 0);
        }
        CHECK.due("roomOf(1)", x.roomOf(1), 2);
        CHECK.due("cell(2)", x.cell(2), 0);
        CHECK.due("cell(1)", x.cell(1), 7);
        CHECK.due("register(1)", x.register(1), 0);
        CHECK.due("did(0, 0, 0)", x.did(0, 0, 0), 0);
        CHECK.due("cycles(50)", x.cycles(50), 6);
        TwoProcessors y = Check.of("cell 0 3;load a a 0;");
        y.cycles(2);
        y.begin();
        CHECK.due("a fetch begins anew", y.cycles(50), 5);
    }

    private static void room() {
        CHECK.about("promise 8, room");
        TwoProcessors x = Check.of("late 9;load b a 0;load c a 1;load d a 2;");
        CHECK.due("room(0, 0)", x.room(0, 0), false);
        CHECK.due("room(0, 7)", x.room(0, 7), false);
        CHECK.due("room(-1, 3)", x.room(-1, 3), false);
        CHECK.due("room(6, 3)", x.room(6, 3), false);
        CHECK.due("roomOf(0)", x.roomOf(0), 4);
        x.cycles(2);
        CHECK.due("room(0, 1)", x.room(0, 1), true);
        CHECK.due("what is there stays", x.queue(0, -1), 2);
        x.cycles(1);
        CHECK.due("LOADS are full", x.side(0, 6), 1);
        CHECK.due("room(0, 6)", x.room(0, 6), true);
        x.cycles(1);
        CHECK.due("LOADS are not full", x.side(0, 6), 0);
        CHECK.due("queue(0, -1)", x.queue(0, -1), 3);
        x = Check.of(STUCK);
        x.cycles(50);
        CHECK.due("room(3, 2), STUCK", x.room(3, 2), true);
        CHECK.due("it stays STUCK", x.cycles(50), 0);
        x.begin();
        x.room(3, 2);
        x.cycles(50);
        CHECK.due("with more room from the beginning", x.count(1), 1);
    }

    private static void counts(TwoProcessors x, int... due) {
        for (int what = 0; what < due.length; what++) {
            CHECK.due("count(" + what + ")", x.count(what), due[what]);
        }
    }

    private static void count() {
        CHECK.about("promise 9, count");
        TwoProcessors x = Check.of(COPY);
        x.cycles(4);
        counts(x, 4, 0, 2, 1, 3, 2, 3, 0, 8, 0, 0, 0);
        x.cycles(2);
        counts(x, 6, 1, 2, 1, 3, 0, 3, 0, 9, 0, 0, 1);
        CHECK.due("count(-1)", x.count(-1), NONE);
        CHECK.due("count(12)", x.count(12), NONE);
        CHECK.due("count(LOW)", x.count(LOW), NONE);
        x = Check.of(ASKS);
        x.cycles(3);
        counts(x, 3, 0, 2, 0, 3, -1, 0, -1, -2, 2, 0, 0);
        x.cycles(50);
        counts(x, 6, 1, 2, 0, 3, 0, 0, -1, -4, 3, 0, 0);
        x = Check.of(STUCK);
        x.cycles(50);
        CHECK.due("STUCK", x.count(1), 2);
        CHECK.due("NOW", x.count(0), 5);
        x.feed(1, 2, 3, 4, 5);
        CHECK.due("bytes", x.count(10), 20);
    }

    private static void sides(TwoProcessors x, int side, int... due) {
        for (int what = 0; what < due.length; what++) {
            CHECK.due("side(" + side + ", " + what + ")", x.side(side, what), due[what]);
        }
    }

    private static void side() {
        CHECK.about("promise 10, side");
        TwoProcessors x = Check.of(COPY);
        sides(x, 0, 3, 0, 0, 0, 0, 0, 0);
        x.cycles(2);
        sides(x, 0, 3, 2, 0, 2, 2, 0, 0);
        sides(x, 1, 3, 0, 0, 0, 0, 0, 1);
        x.cycles(1);
        CHECK.due("the runner ENDED", x.side(0, 5), 1);
        CHECK.due("end, too, is PASSED", x.side(0, 4), 3);
        x.cycles(50);
        sides(x, 1, 3, 2, 0, 3, 3, 1, 0);
        CHECK.due("side(1, 11)", x.side(1, 11), 3);
        for (int r = 12; r <= 17; r++) {
            CHECK.due("side(1, " + r + ")", x.side(1, r), 0);
        }
        for (int what : new int[] {-1, 7, 8, 9, 10, 18, LOW, HIGH}) {
            CHECK.due("side(0, " + what + ")", x.side(0, what), NONE);
        }
        CHECK.due("side(2, 0)", x.side(2, 0), NONE);
        CHECK.due("side(-1, 0)", x.side(-1, 0), NONE);
        x = Check.of("add g a a;load f a 0;");
        x.cycles(1);
        sides(x, 0, 4, 0, 1, 1, 0, 0, 0);
        CHECK.due("the worker wants two copies", x.side(1, 6), 2);
        x.cycles(1);
        sides(x, 0, 4, 1, 0, 2, 1, 0, 0);
        sides(x, 1, 3, 1, 0, 1, 1, 0, 0);
        reasons();
    }

    private static void reason(String text, int cycles, int side, int reason, int times) {
        TwoProcessors x = Check.of(text);
        x.cycles(cycles);
        CHECK.due("side(" + side + ", 6) of " + text, x.side(side, 6), reason);
        if (reason != 0) {
            CHECK.due("side(" + side + ", 1" + reason + ") of " + text, x.side(side, 10 + reason), times);
        }
    }

    private static void reasons() {
        reason("room loads 1;load b a 0;load c a 1;", 4, 0, 1, 3);
        reason("room stores 1;load c a 0;store b a 0;store b a 1;", 4, 0, 2, 2);
        reason("room stores 1;load c a 0;store a a 0;store a a 1;", 3, 0, 0, 0);
        reason("room copies 1;load f b 0;add g b f;add g b f;", 3, 0, 3, 1);
        reason("room told 1;load f b 0;if b=b on;on:if b=b to;to:end;", 3, 0, 4, 1);
        reason("if b=b on;on:end;", 1, 0, 5, 1);
        // A store waits for what is loaded late; what it is to write is loaded again, and comes ahead of full LOADS.
        reason("room loads 1;load b a 0;store b a 1;load c a 1;", 4, 0, 6, 2);
        reason("room loads 1;load b a 0;store b a 1;load a a 1;", 5, 0, 6, 3);
        reason("load a a 0;", 3, 0, 7, 3);
        reason("load b a 0;", 3, 1, 1, 3);
        reason("load b a 0;add b a a;", 5, 1, 0, 0);
        reason("load a a 0;if a<b on;on:end;", 4, 1, 2, 4);
        reason("load a a 0;if a=a on;on:end;", 4, 1, 3, 4);
        reason("room data 1;load a a 0;store b a 0;store b a 1;", 2, 1, 4, 1);
        reason("room asked 1;load a a 0;if b=c on;on:if b=c to;to:end;", 3, 1, 5, 2);
    }

    private static void code(String text, String runner, String worker) {
        TwoProcessors x = Check.of(text);
        CHECK.due("runner of " + text, Check.code(x, 0), runner);
        CHECK.due("worker of " + text, Check.code(x, 1), worker);
    }

    private static void deedsAndTexts() {
        CHECK.about("promises 11 and 12, deeds and text");
        code("keep a;set a 007;set b 000;", "set a 7||end", "|set b 0|end");
        code("keep a;add a b c;sub d a b;mul e f g;", "add a b c|send a,send b||end", "|sub d a b|mul e f g|end");
        code("keep a;mul h a a;sub h a h;add h h a;", "send a,send a|send a|send a|end", "mul h a a|sub h a h|add h h a|end");
        code("load b a 9;load a c 31;", "issue a 9|fetch a c 31|end", "get b||end");
        code("store b a 9;store a c 31;", "place a 9|put a c 31|end", "give b||end");
        code("end;jump on;on:end;", "end|jump 2|end|end", "end|jump 2|end|end");
        code("keep a;keep b;on:if a<b on;if a=c on;if c>b on;if c=d to;to:end;",
            "tell a<b 0|send a,ask 0|send b,ask 0|ask 4|end|end", "heed 0|judge a=c 0|judge c>b 0|judge c=d 4|end|end");
        // What the runner's registers are reckoned from is the runner's, whatever stands ahead; what is compared is not.
        code("add c d e;add b c c;if a<f on;on:load a b 0;", "add c d e|add b c c|ask 3|issue b 0|end",
            "||judge a<f 3|get a|end");
        TwoProcessors x = Check.of("keep a;add b a a;");
        CHECK.due("deeds(0, 0)", x.deeds(0, 0), 2);
        CHECK.due("deeds(1, 1)", x.deeds(1, 1), 1);
        CHECK.due("deeds(0, 2)", x.deeds(0, 2), NONE);
        CHECK.due("deeds(0, -1)", x.deeds(0, -1), NONE);
        CHECK.due("deeds(2, 0)", x.deeds(2, 0), NONE);
        CHECK.due("deeds(-1, 0)", x.deeds(-1, 0), NONE);
        CHECK.due("text(0, 0, 1, 5)", x.text(0, 0, 1, 5), 'a');
        CHECK.due("text(0, 0, 1, 6)", x.text(0, 0, 1, 6), NONE);
        CHECK.due("text(0, 0, 1, -1)", x.text(0, 0, 1, -1), NONE);
        CHECK.due("text(0, 0, 2, 0)", x.text(0, 0, 2, 0), NONE);
        CHECK.due("text(0, 0, -1, 0)", x.text(0, 0, -1, 0), NONE);
        CHECK.due("text(1, 2, 0, 0)", x.text(1, 2, 0, 0), NONE);
        CHECK.due("text(2, 0, 0, 0)", x.text(2, 0, 0, 0), NONE);
        CHECK.due("text(HIGH..)", x.text(HIGH, HIGH, HIGH, HIGH), NONE);
        CHECK.due("text(LOW..)", x.text(LOW, LOW, LOW, LOW), NONE);
    }

    private static void did() {
        CHECK.about("promise 13, did");
        TwoProcessors x = Check.of("keep a;" + ASKS);
        CHECK.due("did(0, 1, 0) at first", x.did(0, 1, 0), 0);
        x.cycles(50);
        CHECK.due("runner", Check.code(x, 0), "add a a c|send a,ask 0|end");
        int[][] due = {{0, 0, 0, 2}, {0, 1, 0, 2}, {0, 1, 1, 2}, {0, 2, 0, 1}, {1, 1, 0, 2}, {1, 2, 0, 1},
            {1, 0, 0, NONE}, {0, 0, 1, NONE}, {0, 1, 2, NONE}, {0, 1, -1, NONE}, {0, 3, 0, NONE}, {0, -1, 0, NONE},
            {2, 0, 0, NONE}, {-1, 0, 0, NONE}};
        for (int[] d : due) {
            CHECK.due("did(" + d[0] + ", " + d[1] + ", " + d[2] + ")", x.did(d[0], d[1], d[2]), d[3]);
        }
    }

    private static void queue() {
        CHECK.about("promise 14, queue");
        TwoProcessors x = Check.of("late 9;cell 5 8;reg c 5;load h c 0;load g a 0;if a<c on;on:if a>c to;to:store b c 30;add d c a;");
        x.cycles(7);
        int[][] due = {{0, 8, 0}, {1, 3}, {2}, {3, 5, 0}, {4, 1, 0}, {5}};
        for (int q = 0; q < 6; q++) {
            CHECK.due("queue(" + q + ", -1)", x.queue(q, -1), due[q].length - 1);
            for (int i = 1; i < due[q].length; i++) {
                CHECK.due("queue(" + q + ", " + (i - 1) + ")", x.queue(q, i - 1), due[q][i]);
            }
            CHECK.due("queue(" + q + ", behind)", x.queue(q, due[q].length - 1), -2);
            CHECK.due("queue(" + q + ", -2)", x.queue(q, -2), -2);
            CHECK.due("queue(" + q + ", HIGH)", x.queue(q, HIGH), -2);
        }
        CHECK.due("queue(6, -1)", x.queue(6, -1), -2);
        CHECK.due("queue(-1, 0)", x.queue(-1, 0), -2);
        x = Check.of("load a a 0;set b 6;store b a 3;store c a 4;");
        x.cycles(3);
        CHECK.due("DATA", x.queue(2, 0), 6);
        CHECK.due("DATA", x.queue(2, 1), 0);
        x = Check.of("load a a 0;if b<c on;on:if b=c to;to:end;");
        x.cycles(3);
        CHECK.due("ASKED", x.queue(5, 0), 0);
        CHECK.due("ASKED", x.queue(5, 1), 1);
    }

    private static void roomOf() {
        CHECK.about("promise 15, roomOf");
        TwoProcessors x = Check.of("room loads 1;room stores 2;room data 3;room copies 5;room told 6;");
        int[] due = {1, 2, 3, 5, 6, 4};
        for (int q = 0; q < 6; q++) {
            CHECK.due("roomOf(" + q + ")", x.roomOf(q), due[q]);
        }
        x.room(5, 2);
        CHECK.due("roomOf(5), of now", x.roomOf(5), 2);
        CHECK.due("roomOf(6)", x.roomOf(6), NONE);
        CHECK.due("roomOf(-1)", x.roomOf(-1), NONE);
    }

    private static void cellAndRegister() {
        CHECK.about("promises 16 and 17, cell and register");
        TwoProcessors x = Check.of("cell 31 999;cell 0 5;reg h 998;keep g;set a 4;set g 5;");
        CHECK.due("cell(31)", x.cell(31), 999);
        CHECK.due("cell(0)", x.cell(0), 5);
        CHECK.due("cell(32)", x.cell(32), NONE);
        CHECK.due("cell(-1)", x.cell(-1), NONE);
        CHECK.due("register(7)", x.register(7), 998);
        CHECK.due("register(8)", x.register(8), NONE);
        CHECK.due("register(-1)", x.register(-1), NONE);
        x.cycles(1);
        CHECK.due("register(0), the worker's", x.register(0), 4);
        CHECK.due("register(6), the runner's", x.register(6), 5);
    }

    private static void memory() {
        CHECK.about("terms 3, memory and loads");
        // What is put is written in the next cycle; what is placed waits for data, and holds up what is put behind it.
        TwoProcessors x = Check.of("late 2;reg a 3;load b a 0;store b a 1;store a a 2;cell 3 9;");
        x.cycles(3);
        CHECK.due("STORES", x.queue(1, -1), 2);
        x.cycles(1);
        CHECK.due("nothing written", x.count(11), 0);
        CHECK.due("DATA", x.queue(2, -1), 1);
        x.cycles(1);
        CHECK.due("cell(4)", x.cell(4), 9);
        CHECK.due("both ENDED", x.side(0, 5) + x.side(1, 5), 2);
        CHECK.due("not DONE", x.count(1), 0);
        x.cycles(1);
        CHECK.due("cell(5)", x.cell(5), 3);
        CHECK.due("DONE", x.count(1), 1);
        // An issue takes what the cell holds then, though it is written before it has come.
        x = Check.of("cell 0 1;reg b 7;late 9;load c a 0;store b a 0;");
        x.cycles(50);
        CHECK.due("register(2)", x.register(2), 1);
        CHECK.due("cell(0)", x.cell(0), 7);
        // Memory writes while both have ended: that is not STUCK.
        x = Check.of("late 9;load b a 0;store b a 1;store a a 2;store a a 3;");
        CHECK.due("cycles(50)", x.cycles(50), 14);
        CHECK.due("DONE", x.count(1), 1);
        CHECK.due("written", x.count(11), 3);
        x = Check.of("reg c 2;cell 2 4;load f c 0;add f f f;store f c 0;load g c 0;store g c 1;");
        CHECK.due("cycles(50)", x.cycles(50), 12);
        CHECK.due("what was stored ahead is loaded", x.cell(3), 8);
    }

    private static void alone() {
        CHECK.about("promise 18, alone");
        TwoProcessors x = Check.of("reg a 2;reg b 3;sub c a b;mul d c c;store c a 31;load e b 30;");
        int[][] due = {{0, 0, 0}, {0, 1, 0}, {0, 2, 0}, {1, 12, 999}, {2, 13, 1}, {2, 2, 2}, {2, 21, 0}, {3, 21, 999},
            {4, 14, 999}, {4, 1, 0}, {4, 2, 4}, {5, 0, 5}, {5, 1, 1}, {5, 2, NONE}, {400, 0, 5}, {400, 10, 2}, {400, 51, 0},
            {401, 0, NONE}, {-1, 0, NONE}, {LOW, 0, NONE}, {0, 3, NONE}, {0, 9, NONE}, {0, 18, NONE}, {0, 19, NONE},
            {0, 52, NONE}, {0, -1, NONE}, {0, HIGH, NONE}};
        for (int[] d : due) {
            CHECK.due("alone(" + d[0] + ", " + d[1] + ")", x.alone(d[0], d[1]), d[2]);
        }
        x.cycles(3);
        x.room(0, 1);
        CHECK.due("from the beginning", x.alone(1, 12), 999);
        CHECK.due("nothing changes", x.count(0), 3);
        x = Check.of(FOREVER);
        CHECK.due("alone(400, 0)", x.alone(400, 0), 400);
        CHECK.due("alone(399, 2)", x.alone(399, 2), 1);
        x = Check.of(ASKS);
        CHECK.due("alone(2, 2)", x.alone(2, 2), 0);
        CHECK.due("alone(4, 2)", x.alone(4, 2), 2);
        x = Check.of("jump on;set a 1;on:end;set a 2;");
        CHECK.due("end ends", x.alone(400, 0), 2);
        CHECK.due("alone(400, 10)", x.alone(400, 10), 0);
        x = Check.of("reg a 999;reg b 999;add c a b;store a a 31;");
        CHECK.due("add is modulo 1000", x.alone(400, 12), 998);
        CHECK.due("a cell is modulo 32 alone: 1030 is 6", x.alone(400, 26), 999);
    }

    private static void ahead() {
        CHECK.about("promise 19, ahead");
        TwoProcessors x = Check.of("late 9;load b a 0;load c a 1;load d a 2;");
        x.room(0, 1);
        x.cycles(2);
        x.feed(0, 0, 0, 0, 0);
        CHECK.due("ahead(0, 0)", x.ahead(0, 0), 2);
        CHECK.due("ahead(3, 0)", x.ahead(3, 0), 5);
        CHECK.due("ahead(0, 5)", x.ahead(0, 5), 1);
        // With room for one: issued in 1, 11, 21, got in 10, 20, 30.
        CHECK.due("ahead(60, 0), room as of now", x.ahead(60, 0), 31);
        CHECK.due("ahead(60, 1)", x.ahead(60, 1), 1);
        CHECK.due("ahead(28, 1)", x.ahead(28, 1), 0);
        CHECK.due("ahead(1, 10)", x.ahead(1, 10), 20);
        CHECK.due("ahead(61, 0)", x.ahead(61, 0), NONE);
        CHECK.due("ahead(-1, 0)", x.ahead(-1, 0), NONE);
        CHECK.due("ahead(1, 12)", x.ahead(1, 12), NONE);
        CHECK.due("ahead(1, -1)", x.ahead(1, -1), NONE);
        CHECK.due("nothing changes", x.count(0), 2);
        CHECK.due("time(), room as told", x.time(), 13);
    }

    private static void time() {
        CHECK.about("promise 20, time");
        TwoProcessors x = Check.of(COPY);
        x.room(0, 1);
        x.cycles(5);
        CHECK.due("time()", x.time(), 6);
        CHECK.due("count(0)", x.count(0), 5);
        CHECK.due("tells", Check.of(TELLS).time(), 5);
        CHECK.due("asks", Check.of(ASKS).time(), 6);
        CHECK.due("stuck", Check.of(STUCK).time(), NONE);
        CHECK.due("forever", Check.of(FOREVER).time(), NONE);
        // Two cycles a round, the ends in the one behind: 499 rounds are done at 999, 500 are not.
        CHECK.due("999", Check.of("keep a;reg b 499;reg c 1;keep b;up:add a a c;if a<b up;").time(), 999);
        CHECK.due("1001", Check.of("keep a;reg b 500;reg c 1;keep b;up:add a a c;if a<b up;").time(), NONE);
    }

    private static void late() {
        CHECK.about("promise 21, late");
        TwoProcessors x = Check.of(COPY);
        CHECK.due("late(1)", x.late(1), 4);
        CHECK.due("late(3)", x.late(3), 6);
        CHECK.due("late(9)", x.late(9), 12);
        CHECK.due("late(0)", x.late(0), NONE);
        CHECK.due("late(10)", x.late(10), NONE);
        CHECK.due("late(LOW)", x.late(LOW), NONE);
        CHECK.due("count(4)", x.count(4), 3);
        CHECK.due("time()", x.time(), 6);
        CHECK.due("of a fetch", Check.of("load a a 0;").late(2), 4);
        CHECK.due("stuck", Check.of(STUCK).late(1), NONE);
    }

    private static void keepingAndBest() {
        CHECK.about("promises 22 and 23, keeping and best");
        TwoProcessors x = Check.of(ASKS);
        int[] due = {7, 6, 7, 6, 6, 6, 6, 6};
        for (int r = 0; r < 8; r++) {
            CHECK.due("keeping(" + r + ")", x.keeping(r), due[r]);
        }
        CHECK.due("keeping(8)", x.keeping(8), NONE);
        CHECK.due("keeping(-1)", x.keeping(-1), NONE);
        CHECK.due("best(), none is less", x.best(), NONE);
        CHECK.due("count(3)", x.count(3), 0);
        x = Check.of("keep a;" + ASKS);
        CHECK.due("time()", x.time(), 7);
        CHECK.due("keeping(0), in AIMS", x.keeping(0), 7);
        CHECK.due("keeping(1)", x.keeping(1), 5);
        CHECK.due("best()", x.best(), 1);
        x = Check.of(STUCK);
        CHECK.due("keeping(6)", x.keeping(6), 5);
        CHECK.due("keeping(5)", x.keeping(5), NONE);
        CHECK.due("best(), none is more than all", x.best(), 6);
        CHECK.due("best() of forever", Check.of(FOREVER).best(), NONE);
        x = Check.of("keep a;if a<b on;on:if a<c to;to:end;");
        CHECK.due("time()", x.time(), 5);
        CHECK.due("keeping(1)", x.keeping(1), 4);
        CHECK.due("keeping(2)", x.keeping(2), 4);
        CHECK.due("best(), of several the least", x.best(), 1);
    }

    private static void least() {
        CHECK.about("promise 24, least");
        // With room for 1, 2, 3 loads: 13, 9, 7.
        TwoProcessors x = Check.of("room loads 1;load b a 0;load c a 1;load d a 2;");
        x.room(0, 6);
        CHECK.due("time()", x.time(), 13);
        CHECK.due("least(0, true)", x.least(0, true), 3);
        CHECK.due("least(0, false)", x.least(0, false), 1);
        CHECK.due("least(1, true)", x.least(1, true), 1);
        CHECK.due("least(6, true)", x.least(6, true), NONE);
        CHECK.due("least(-1, false)", x.least(-1, false), NONE);
        CHECK.due("count(0)", x.count(0), 0);
        x = Check.of(STUCK);
        CHECK.due("least(3, false)", x.least(3, false), 2);
        CHECK.due("least(3, true)", x.least(3, true), 2);
        CHECK.due("least(0, false), copies as told", x.least(0, false), NONE);
        CHECK.due("least(0, true), no TIME by 6", x.least(0, true), NONE);
        x = Check.of(FOREVER);
        CHECK.due("least(4, false), never STUCK", x.least(4, false), 1);
        CHECK.due("least(4, true), no TIME by 6", x.least(4, true), NONE);
    }

    private static void safe() {
        CHECK.about("promise 25, safe");
        CHECK.due("stuck by 1", Check.of(STUCK).safe(), 2);
        CHECK.due("never stuck", Check.of(COPY).safe(), 1);
        CHECK.due("forever", Check.of(FOREVER).safe(), 1);
        CHECK.due("all at once", Check.of("room copies 1;room loads 1;load f a 0;add g a a;load f a 0;").safe(), 2);
    }

    private static void rounds(String text, int any, int losing, int where) {
        TwoProcessors x = Check.of(text);
        CHECK.due("rounds(0) of " + text, x.rounds(0), any);
        CHECK.due("rounds(1) of " + text, x.rounds(1), losing);
        CHECK.due("rounds(2) of " + text, x.rounds(2), where);
    }

    private static void rounds() {
        CHECK.about("promise 26, rounds");
        rounds("", 0, 0, 0);
        rounds("load a a 0;", 0, 0, 0);
        rounds("aa:jump aa;", 1, 0, 0);
        rounds("aa:if b<c aa;", 1, 1, 1);
        rounds("keep b;keep c;aa:if b<c aa;", 1, 0, 0);
        rounds("end;aa:jump aa;", 2, 0, 0);
        rounds("aa:end;jump aa;", 0, 0, 0);
        rounds("aa:load a a 0;jump aa;", 3, 3, 1);
        rounds("keep a;keep b;aa:if a<b aa;bb:add c c c;if c<c bb;", 7, 6, 4);
        rounds("aa:set b 1;bb:set c 2;if a<b bb;if a<c aa;load a a 0;", 15, 15, 12);
        rounds("end;".repeat(23) + "zz:jump zz;", 1 << 23, 0, 0);
        rounds("zz:" + "set a 1;".repeat(23) + "jump zz;", (1 << 24) - 1, 0, 0);
        TwoProcessors x = new TwoProcessors();
        for (int what : new int[] {-1, 3, LOW, HIGH}) {
            CHECK.due("rounds(" + what + ")", x.rounds(what), -2);
        }
    }

    private static void changed() {
        CHECK.about("promise 27, changed");
        TwoProcessors x = Check.of(COPY);
        x.cycles(50);
        CHECK.due("changed(2)", x.changed(2), 6);
        CHECK.due("changed(1)", x.changed(1), NONE);
        CHECK.due("changed(32)", x.changed(32), NONE);
        CHECK.due("changed(-1)", x.changed(-1), NONE);
        // The same number again is no change; one by one, each is written behind the one ahead.
        x = Check.of("cell 0 4;reg b 4;reg a 0;store b a 0;store c a 0;store b a 0;");
        CHECK.due("changed(0)", x.changed(0), 3);
        CHECK.due("forever", Check.of(FOREVER).changed(0), NONE);
        CHECK.due("stuck", Check.of(STUCK).changed(0), NONE);
    }

    private static void slipped() {
        CHECK.about("promise 28, slipped");
        TwoProcessors x = Check.of(COPY);
        x.cycles(50);
        int[] due = {0, 1, 2, 3, NONE};
        for (int slip = 0; slip < due.length; slip++) {
            CHECK.due("slipped(" + slip + ")", x.slipped(slip), due[slip]);
        }
        CHECK.due("slipped(-1)", x.slipped(-1), NONE);
        x = Check.of(ASKS);
        CHECK.due("slipped(-1)", x.slipped(-1), 2);
        CHECK.due("slipped(-2)", x.slipped(-2), NONE);
        CHECK.due("slipped(HIGH)", x.slipped(HIGH), NONE);
        // The worker passes two instructions a cycle, the runner one, to the last cycle.
        x = Check.of("keep a;up:add a a a;jump up;");
        CHECK.due("slipped(-999)", x.slipped(-999), 999);
        CHECK.due("slipped(-1000)", x.slipped(-1000), NONE);
        x = Check.of("cell 0 3;cell 3 5;late 2;load a a 0;load a a 0;add g g a;");
        CHECK.due("slipped(-2)", x.slipped(-2), 1);
        CHECK.due("slipped(0)", x.slipped(0), 0);
    }

    private static void images() {
        CHECK.about("promises 29 and 30, image and again");
        TwoProcessors x = Check.of(COPY);
        CHECK.due("image(3)", x.image(3), false);
        CHECK.due("image(-1)", x.image(-1), false);
        CHECK.due("again(3)", x.again(3), false);
        CHECK.due("again(-1)", x.again(-1), false);
        CHECK.due("again(0), none yet", x.again(0), false);
        Check.take(x, "late 0;");
        x.cycles(4);
        x.room(1, 6);
        Check.write(x, "set a 5;set b 6;");
        CHECK.due("image(0)", x.image(0), true);
        x.cycles(50);
        x.end(3);
        Check.take(x, ASKS);
        x.cycles(3);
        CHECK.due("image(2)", x.image(2), true);
        for (int i = 0; i < 2; i++) {
            CHECK.due("again(0)", x.again(0), true);
            counts(x, 4, 0, 2, 1, 3, 2, 3, 0, 8, 0, 16, 0);
            CHECK.due("fault(0)", x.fault(0), 2);
            CHECK.due("fault(1)", x.fault(1), 5);
            CHECK.due("roomOf(1)", x.roomOf(1), 6);
            CHECK.due("queue(1, 0)", x.queue(1, 0), 2);
            CHECK.due("register(1)", x.register(1), 7);
            CHECK.due("side(1, 11)", x.side(1, 11), 3);
            CHECK.due("did(1, 0, 0)", x.did(1, 0, 0), 1);
            CHECK.due("runner", Check.code(x, 0), "issue a 1|place a 2|end");
            CHECK.due("cycles(50)", x.cycles(50), 2);
            CHECK.due("cell(2)", x.cell(2), 7);
            CHECK.due("program()", x.program(), 2);
            CHECK.due("the tape", Check.deed(x, 1, 1, 0), "set b 6");
        }
        CHECK.due("again(1), none", x.again(1), false);
        CHECK.due("again(2)", x.again(2), true);
        CHECK.due("fault(0)", x.fault(0), 0);
        counts(x, 3, 0, 2, 0, 3, -1, 0, -1, -2, 2, 0, 0);
        CHECK.due("time()", x.time(), 6);
        x.image(0);
        x.begin();
        x.again(0);
        CHECK.due("taken anew", x.count(0), 3);
        TwoProcessors y = Check.of("cell 0 3;cell 3 5;load a a 0;load a a 0;");
        y.cycles(2);
        y.image(1);
        y.cycles(50);
        y.again(1);
        CHECK.due("a fetch under way", y.cycles(50), 7);
        CHECK.due("register(0)", y.register(0), 5);
    }
}
