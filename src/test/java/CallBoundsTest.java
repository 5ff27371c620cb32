/** The bounds of each call's numbers: the last that is allowed, the first that is not, on either side. */
public final class CallBoundsTest {
    private static final int NONE = TwoProcessors.NONE;
    private static final int LOW = Integer.MIN_VALUE;
    private static final int HIGH = Integer.MAX_VALUE;
    private static final Check CHECK = new Check();
    private static final String[] QUEUES = {"loads", "stores", "data", "copies", "told", "asked"};

    /** Every queue is used, and the runner waits for 5, 6 and 7: done in 17. */
    private static final String MANY = "late 4;room loads 2;cell 3 9;reg b 5;load c a 3;store b a 1;add d a c;load a a 1;"
        + "if d>b on;set h 4;on:if a=a to;to:store d a 2;by:if d<b by;";
    /** Two copies are wanted at once; each room is told. */
    private static final String TWO_COPIES = "room loads 1;room copies 1;load f a 0;add g a a;load b a 0;load c a 1;load d a 2;";

    public static void main(String[] args) {
        newObject();
        feedBytes();
        feedUpTo600();
        endBounds();
        programTakesTheTape();
        faultBounds();
        cyclesBounds();
        beginAsTheTextTold();
        roomBounds();
        countBounds();
        sideBounds();
        deedsBounds();
        textBounds();
        didBounds();
        queueBounds();
        roomOfCellRegisterBounds();
        aloneBounds();
        aheadBounds();
        aheadAsCount();
        lateBounds();
        keepingBounds();
        bestOfSeveral();
        leastBounds();
        leastAsTold();
        safeBounds();
        roundsBounds();
        changedBounds();
        slippedBounds();
        fromTheBeginning();
        CHECK.finish();
    }

    private static void newObject() {
        CHECK.about("'A PROGRAM without INSTRUCTIONS, NOW 0; no images'");
        TwoProcessors taken = new TwoProcessors();
        CHECK.due("program()", taken.program(), 0);
        CHECK.due("new, and with an empty tape taken", Seen.whole(new TwoProcessors()), Seen.whole(taken));
        TwoProcessors x = new TwoProcessors();
        CHECK.due("count(0)", x.count(0), 0);
        CHECK.due("count(1)", x.count(1), 0);
        CHECK.due("count(2)", x.count(2), 0);
        CHECK.due("count(10)", x.count(10), 0);
        for (int k = -1; k <= 3; k++) {
            CHECK.due("again(" + k + ")", x.again(k), false);
        }
        CHECK.due("NONE", TwoProcessors.NONE, -1);
    }

    private static void feedBytes() {
        CHECK.about("'twenty bytes come behind it, of each number the highest first'");
        for (int at = 0; at < 20; at++) {
            int[] five = new int[5];
            for (int i = 0; i < 20; i++) {
                five[i / 4] |= (i == at ? 200 : 32) << (24 - i % 4 * 8);
            }
            TwoProcessors x = new TwoProcessors();
            CHECK.due("feed", x.feed(five[0], five[1], five[2], five[3], five[4]), 20);
            CHECK.due("program()", x.program(), NONE);
            CHECK.due("fault(0)", x.fault(0), 1);
            CHECK.due("a byte of 200 at " + at, x.fault(1), at);
            Check.write(x, "end;end;");
            CHECK.due("feed behind", x.feed(five[0], five[1], five[2], five[3], five[4]), 28);
            x.program();
            CHECK.due("a byte of 200 at " + at + ", behind eight", x.fault(1), 8 + at);
        }
    }

    private static void feedUpTo600() {
        CHECK.about("'NONE, and nothing comes, if there would be more than 600'");
        for (int size : new int[] {0, 560, 579, 580, 581, 599, 600}) {
            TwoProcessors x = new TwoProcessors();
            Check.write(x, "end;" + " ".repeat(Math.max(0, size - 4)));
            CHECK.due("end(" + size + ")", x.end(size), size);
            boolean room = size <= 580;
            CHECK.due("feed behind " + size, x.feed(-1, -1, -1, -1, -1), room ? size + 20 : NONE);
            CHECK.due("count(10) behind it", x.count(10), room ? size + 20 : size);
            CHECK.due("program() behind it", x.program(), room ? NONE : 1);
            CHECK.due("fault(1) behind it", x.fault(1), room ? size : NONE);
        }
        TwoProcessors x = new TwoProcessors();
        for (int i = 1; i <= 30; i++) {
            CHECK.due("feed", x.feed(0x20202020, 0x20202020, 0x20202020, 0x20202020, 0x20202020), 20 * i);
        }
        CHECK.due("feed, the 31st", x.feed(0, 0, 0, 0, 0), NONE);
        CHECK.due("feed, the 32nd", x.feed(0, 0, 0, 0, 0), NONE);
        CHECK.due("program()", x.program(), 0);
        CHECK.due("feed behind it", x.feed(0, 0, 0, 0, 0), 20);
    }

    private static void endBounds() {
        CHECK.about("'The tape has its first n bytes alone: n. NONE if it has not so many, or n is below 0'");
        TwoProcessors x = new TwoProcessors();
        for (int n : new int[] {1, -1, 600, LOW, HIGH}) {
            CHECK.due("end(" + n + ") of none", x.end(n), NONE);
        }
        CHECK.due("end(0) of none", x.end(0), 0);
        Check.write(x, "set a 5;set b 6;");
        for (int n : new int[] {17, 600, 601, HIGH, -1, LOW}) {
            CHECK.due("end(" + n + ") of 16", x.end(n), NONE);
            CHECK.due("count(10)", x.count(10), 16);
        }
        CHECK.due("end(16)", x.end(16), 16);
        CHECK.due("end(8)", x.end(8), 8);
        CHECK.due("count(10)", x.count(10), 8);
        CHECK.due("end(9), no more there", x.end(9), NONE);
        // What comes then comes behind the eight: "end;" and blanks.
        CHECK.due("feed", x.feed(0x656e643b, 0x20202020, 0x20202020, 0x20202020, 0x20202020), 28);
        CHECK.due("program()", x.program(), 2);
        CHECK.due("the first eight bytes stayed", Check.code(x, 1), "set a 5|end|end");
        Check.write(x, "end;");
        CHECK.due("end(0)", x.end(0), 0);
        CHECK.due("program() of none", x.program(), 0);
        Check.write(x, " ".repeat(600));
        CHECK.due("end(601)", x.end(601), NONE);
        CHECK.due("end(600)", x.end(600), 600);
    }

    private static void programTakesTheTape() {
        CHECK.about("'The tape is taken (and is empty then) as a PROGRAM: how many INSTRUCTIONS; it is at its beginning'");
        for (int size : new int[] {0, 1, 2, 23, 24}) {
            TwoProcessors x = Check.of(MANY);
            x.cycles(7);
            x.room(0, 6);
            CHECK.due("program() of " + size, Check.take(x, "end;".repeat(size)), size);
            CHECK.due("count(2)", x.count(2), size);
            CHECK.due("count(10)", x.count(10), 0);
            CHECK.due("fault(0)", x.fault(0), 0);
            CHECK.due("end(1)", x.end(1), NONE);
        }
        TwoProcessors x = Check.of(MANY);
        x.cycles(7);
        x.room(0, 6);
        CHECK.due("again, from under way", Check.take(x, MANY), 9);
        CHECK.due("as of a new object", Seen.whole(x), Seen.whole(Check.of(MANY)));
        CHECK.due("with a fault", Check.take(x, "late 0;"), NONE);
        CHECK.due("count(10)", x.count(10), 0);
        CHECK.due("end(1)", x.end(1), NONE);
        CHECK.due("program() of the empty tape", x.program(), 0);
    }

    private static void faultBounds() {
        CHECK.about("'Of the latest program(), what 0: the FAULT, 0 without, 1: its place, NONE without. NONE for another what'");
        TwoProcessors x = new TwoProcessors();
        for (int what : new int[] {-1, 2, 3, LOW, HIGH}) {
            CHECK.due("fault(" + what + ")", x.fault(what), NONE);
        }
        CHECK.due("fault(0), new", x.fault(0), 0);
        CHECK.due("fault(1), new", x.fault(1), NONE);
        Check.take(x, "#");
        CHECK.due("fault(0)", x.fault(0), 1);
        CHECK.due("fault(1), the first byte", x.fault(1), 0);
        for (int what : new int[] {-1, 2, 3, LOW, HIGH}) {
            CHECK.due("fault(" + what + ")", x.fault(what), NONE);
        }
        x.feed(0, 0, 0, 0, 0);
        x.end(5);
        x.cycles(50);
        x.begin();
        x.room(0, 1);
        CHECK.due("fault(0), of the latest program() still", x.fault(0), 1);
        CHECK.due("fault(1), of the latest program() still", x.fault(1), 0);
        Check.take(x, "end");
        CHECK.due("fault(1), the latest", x.fault(1), 3);
        Check.take(x, "end;");
        CHECK.due("fault(0), the latest", x.fault(0), 0);
        CHECK.due("fault(1), the latest", x.fault(1), NONE);
    }

    private static void cyclesBounds() {
        CHECK.about("'So many CYCLES go by, 1 to 50, or fewer, if it goes on no more: how many. NONE: another n'");
        for (int n : new int[] {1, 2, 49, 50}) {
            TwoProcessors x = Check.of("up:jump up;");
            CHECK.due("cycles(" + n + ")", x.cycles(n), n);
            CHECK.due("count(0)", x.count(0), n);
        }
        for (int n : new int[] {0, -1, 51, 52, 999, LOW, HIGH}) {
            TwoProcessors x = Check.of("up:jump up;");
            CHECK.due("cycles(" + n + ")", x.cycles(n), NONE);
            CHECK.due("count(0)", x.count(0), 0);
        }
        TwoProcessors x = Check.of(MANY);
        CHECK.due("cycles(50), fewer", x.cycles(50), 17);
        CHECK.due("cycles(1), none", x.cycles(1), 0);
        CHECK.due("cycles(0), DONE", x.cycles(0), NONE);
        CHECK.due("cycles(51), DONE", x.cycles(51), NONE);
        x.begin();
        CHECK.due("cycles(16)", x.cycles(16), 16);
        CHECK.due("count(1)", x.count(1), 0);
        CHECK.due("cycles(1), just the last", x.cycles(1), 1);
        CHECK.due("count(1)", x.count(1), 1);
        x.begin();
        CHECK.due("cycles(17), just all", x.cycles(17), 17);
        x.begin();
        CHECK.due("cycles(18), one too many", x.cycles(18), 17);
    }

    private static void beginAsTheTextTold() {
        CHECK.about("'It is at its beginning again, all as the text told (each ROOM, too)'");
        for (int cycles : new int[] {1, 3, 6, 9, 12, 50}) {
            TwoProcessors x = Check.of(MANY);
            for (int q = 0; q < 6; q++) {
                x.room(q, 6 - q);
            }
            x.cycles(cycles);
            x.begin();
            CHECK.due("begin() at " + cycles, Seen.whole(x), Seen.whole(Check.of(MANY)));
        }
        TwoProcessors x = Check.of(TWO_COPIES);
        x.cycles(50);
        CHECK.due("STUCK", x.count(1), 2);
        x.begin();
        CHECK.due("begin() of what is STUCK", Seen.whole(x), Seen.whole(Check.of(TWO_COPIES)));
        x = Check.of(MANY);
        Check.take(x, "late 10;");
        Check.write(x, "end;end;");
        x.image(1);
        x.cycles(5);
        x.begin();
        CHECK.due("the tape stays", x.count(10), 8);
        CHECK.due("the FAULT stays", x.fault(0) * 10 + x.fault(1), 25);
        CHECK.due("images stay", x.again(1), true);
        CHECK.due("other images", x.again(0), false);
    }

    private static void roomBounds() {
        CHECK.about("'ROOM of a QUEUE is so much from now on, 1 .. 6: true. False, and nothing changes: no such QUEUE, ROOM'");
        for (int q = -1; q <= 6; q++) {
            for (int much = -1; much <= 8; much++) {
                TwoProcessors x = new TwoProcessors();
                boolean can = q >= 0 && q <= 5 && much >= 1 && much <= 6;
                CHECK.due("room(" + q + ", " + much + ")", x.room(q, much), can);
                for (int other = 0; other < 6; other++) {
                    CHECK.due("roomOf(" + other + ") behind room(" + q + ", " + much + ")", x.roomOf(other), can && other == q ? much : 4);
                }
            }
        }
        int[][] far = {{LOW, 1}, {HIGH, 1}, {0, LOW}, {0, HIGH}, {LOW, LOW}, {HIGH, HIGH}};
        for (int[] f : far) {
            CHECK.due("room(" + f[0] + ", " + f[1] + ")", new TwoProcessors().room(f[0], f[1]), false);
        }
    }

    private static void countBounds() {
        CHECK.about("'count: NONE for another what'");
        TwoProcessors x = Check.of(MANY);
        x.cycles(50);
        int[] due = {17, 1, 9, 1, 4, 0, 3, -2, 3, 8, 0, 2};
        for (int what = 0; what < due.length; what++) {
            CHECK.due("count(" + what + ")", x.count(what), due[what]);
        }
        for (int what : new int[] {-1, -2, 12, 13, LOW, HIGH}) {
            CHECK.due("count(" + what + ")", x.count(what), NONE);
        }
    }

    private static void sideBounds() {
        CHECK.about("'side: NONE: no such side, what'");
        TwoProcessors x = Check.of(MANY);
        x.cycles(50);
        for (int what : new int[] {-1, -2, 7, 8, 9, 10, 18, 19, LOW, HIGH}) {
            CHECK.due("side(0, " + what + ")", x.side(0, what), NONE);
            CHECK.due("side(1, " + what + ")", x.side(1, what), NONE);
        }
        for (int what = 0; what <= 17; what++) {
            boolean can = what <= 6 || what >= 11;
            CHECK.due("side(0, " + what + ") is none", x.side(0, what) == NONE, !can);
            CHECK.due("side(1, " + what + ") is none", x.side(1, what) == NONE, !can);
            CHECK.due("side(-1, " + what + ")", x.side(-1, what), NONE);
            CHECK.due("side(2, " + what + ")", x.side(2, what), NONE);
        }
        CHECK.due("side(LOW, 0)", x.side(LOW, 0), NONE);
        CHECK.due("side(HIGH, 0)", x.side(HIGH, 0), NONE);
        CHECK.due("side(1, 16), a reason that he never has", x.side(1, 16), 0);
        CHECK.due("side(1, 17), a reason that he never has", x.side(1, 17), 0);
    }

    private static void deedsBounds() {
        CHECK.about("'How many DEEDS of a side an INSTRUCTION has (the one behind the last one, too). NONE: no such side, INSTRUCTION'");
        TwoProcessors x = Check.of("keep a;add b a a;set a 1;");
        int[][] due = {{2, 1, 1}, {1, 0, 1}};
        for (int side = -1; side <= 2; side++) {
            for (int i = -2; i <= 4; i++) {
                boolean can = side >= 0 && side <= 1 && i >= 0 && i <= 2;
                CHECK.due("deeds(" + side + ", " + i + ")", x.deeds(side, i), can ? due[side][i] : NONE);
            }
        }
        for (int far : new int[] {LOW, HIGH}) {
            CHECK.due("deeds(0, far)", x.deeds(0, far), NONE);
            CHECK.due("deeds(far, 0)", x.deeds(far, 0), NONE);
        }
    }

    private static void textBounds() {
        CHECK.about("'The i-th byte of the text of the k-th DEED of a side of an INSTRUCTION. NONE: there is none such (of any)'");
        String[][][] due = {{{"send a", "send a"}, {"set a 1"}, {"end"}}, {{"add b a a"}, {}, {"end"}}};
        for (int side = -1; side <= 2; side++) {
            TwoProcessors x = Check.of("keep a;add b a a;set a 1;");
            for (int i = -1; i <= 3; i++) {
                for (int k = -1; k <= 2; k++) {
                    boolean can = side >= 0 && side <= 1 && i >= 0 && i <= 2 && k >= 0 && k < due[side][i].length;
                    String text = can ? due[side][i][k] : "";
                    for (int b : new int[] {-2, -1, 0, 1, text.length() - 1, text.length(), text.length() + 1, LOW, HIGH}) {
                        int want = b >= 0 && b < text.length() ? text.charAt(b) : NONE;
                        CHECK.due("text(" + side + ", " + i + ", " + k + ", " + b + ")", x.text(side, i, k, b), want);
                    }
                }
            }
        }
        TwoProcessors x = Check.of("keep a;add b a a;set a 1;");
        for (int far : new int[] {LOW, HIGH}) {
            CHECK.due("text(far, 0, 0, 0)", x.text(far, 0, 0, 0), NONE);
            CHECK.due("text(0, far, 0, 0)", x.text(0, far, 0, 0), NONE);
            CHECK.due("text(0, 0, far, 0)", x.text(0, 0, far, 0), NONE);
        }
    }

    private static void didBounds() {
        CHECK.about("'How often a side did the k-th DEED of an INSTRUCTION. NONE: there is none such (of any)'");
        TwoProcessors x = Check.of("keep a;add b a a;set a 1;");
        int[][][] due = {{{1, 0}, {0}, {0}}, {{0}, {}, {0}}};
        x.cycles(1);
        dids(x, due);
        x.cycles(50);
        dids(x, new int[][][] {{{1, 1}, {1}, {1}}, {{1}, {}, {1}}});
        for (int far : new int[] {LOW, HIGH}) {
            CHECK.due("did(far, 0, 0)", x.did(far, 0, 0), NONE);
            CHECK.due("did(0, far, 0)", x.did(0, far, 0), NONE);
            CHECK.due("did(0, 0, far)", x.did(0, 0, far), NONE);
        }
        x = Check.of("up:jump up;");
        x.cycles(50);
        CHECK.due("did(1, 0, 0)", x.did(1, 0, 0), 50);
        CHECK.due("did(1, 1, 0)", x.did(1, 1, 0), 0);
    }

    private static void dids(TwoProcessors x, int[][][] due) {
        for (int side = -1; side <= 2; side++) {
            for (int i = -1; i <= 3; i++) {
                for (int k = -1; k <= 2; k++) {
                    boolean can = side >= 0 && side <= 1 && i >= 0 && i <= 2 && k >= 0 && k < due[side][i].length;
                    CHECK.due("did(" + side + ", " + i + ", " + k + ")", x.did(side, i, k), can ? due[side][i][k] : NONE);
                }
            }
        }
    }

    private static void queueBounds() {
        CHECK.about("'How many are in a QUEUE (i NONE), or the i-th .. -2: there is none such (of either)'");
        TwoProcessors x = Check.of("late 9;cell 5 8;reg c 5;load h c 0;load g a 0;if a<c on;on:if a>c to;to:store b c 30;add d c a;");
        x.cycles(7);
        int[][] due = {{8, 0}, {3}, {}, {5, 0}, {1, 0}, {}};
        for (int q = 0; q < 6; q++) {
            CHECK.due("queue(" + q + ", NONE)", x.queue(q, NONE), due[q].length);
            for (int i = -3; i <= 7; i++) {
                if (i != NONE) {
                    boolean can = i >= 0 && i < due[q].length;
                    CHECK.due("queue(" + q + ", " + i + ")", x.queue(q, i), can ? due[q][i] : -2);
                }
            }
            CHECK.due("queue(" + q + ", LOW)", x.queue(q, LOW), -2);
            CHECK.due("queue(" + q + ", HIGH)", x.queue(q, HIGH), -2);
        }
        for (int q : new int[] {-2, -1, 6, 7, LOW, HIGH}) {
            for (int i : new int[] {-2, NONE, 0, 1, LOW, HIGH}) {
                CHECK.due("queue(" + q + ", " + i + ")", x.queue(q, i), -2);
            }
        }
    }

    private static void roomOfCellRegisterBounds() {
        CHECK.about("'roomOf, cell, register: NONE: there is none such'");
        TwoProcessors x = Check.of("room loads 1;room asked 6;cell 0 1;cell 31 999;reg a 2;reg h 998;");
        CHECK.due("roomOf(0)", x.roomOf(0), 1);
        CHECK.due("roomOf(5)", x.roomOf(5), 6);
        CHECK.due("cell(0)", x.cell(0), 1);
        CHECK.due("cell(31)", x.cell(31), 999);
        CHECK.due("register(0)", x.register(0), 2);
        CHECK.due("register(7)", x.register(7), 998);
        for (int far : new int[] {-1, -2, LOW, HIGH}) {
            CHECK.due("roomOf(" + far + ")", x.roomOf(far), NONE);
            CHECK.due("cell(" + far + ")", x.cell(far), NONE);
            CHECK.due("register(" + far + ")", x.register(far), NONE);
        }
        CHECK.due("roomOf(6)", x.roomOf(6), NONE);
        CHECK.due("cell(32)", x.cell(32), NONE);
        CHECK.due("register(8)", x.register(8), NONE);
        // Of who has it: the runner's at once, the worker's as he comes to it.
        x = Check.of("keep a;set b 1;set b 2;set a 3;");
        x.cycles(1);
        CHECK.due("register(0), of the runner", x.register(0), 3);
        CHECK.due("register(1), of the worker", x.register(1), 1);
    }

    private static void aloneBounds() {
        CHECK.about("'alone(n, what): .. 0 .. 400 ..: NONE: another n, what'");
        TwoProcessors x = Check.of("reg a 5;reg h 6;cell 0 7;cell 31 8;up:jump up;");
        for (int n : new int[] {-1, -2, 401, 402, LOW, HIGH}) {
            for (int what : new int[] {0, 1, 2, 10, 20, 51}) {
                CHECK.due("alone(" + n + ", " + what + ")", x.alone(n, what), NONE);
            }
        }
        for (int n : new int[] {0, 1, 399, 400}) {
            CHECK.due("alone(" + n + ", 0)", x.alone(n, 0), n);
            CHECK.due("alone(" + n + ", 1)", x.alone(n, 1), 0);
            CHECK.due("alone(" + n + ", 2)", x.alone(n, 2), 0);
            CHECK.due("alone(" + n + ", 10)", x.alone(n, 10), 5);
            CHECK.due("alone(" + n + ", 17)", x.alone(n, 17), 6);
            CHECK.due("alone(" + n + ", 20)", x.alone(n, 20), 7);
            CHECK.due("alone(" + n + ", 51)", x.alone(n, 51), 8);
            for (int what : new int[] {-1, 3, 4, 8, 9, 18, 19, 52, 53, LOW, HIGH}) {
                CHECK.due("alone(" + n + ", " + what + ")", x.alone(n, what), NONE);
            }
        }
    }

    private static void aheadBounds() {
        CHECK.about("'Behind n CYCLES more, 0 .. 60 (or fewer): what as count(). NONE: another n, what'");
        TwoProcessors x = Check.of("up:jump up;");
        x.cycles(3);
        for (int n : new int[] {0, 1, 50, 51, 59, 60}) {
            CHECK.due("ahead(" + n + ", 0)", x.ahead(n, 0), 3 + n);
        }
        for (int n : new int[] {-1, -2, 61, 62, 999, LOW, HIGH}) {
            CHECK.due("ahead(" + n + ", 0)", x.ahead(n, 0), NONE);
        }
        for (int what : new int[] {-1, -2, 12, 13, LOW, HIGH}) {
            CHECK.due("ahead(0, " + what + ")", x.ahead(0, what), NONE);
            CHECK.due("ahead(60, " + what + ")", x.ahead(60, what), NONE);
        }
        CHECK.due("count(0)", x.count(0), 3);
    }

    private static void aheadAsCount() {
        CHECK.about("'ahead: what as count()', with the rooms of now");
        for (int n = 0; n <= 60; n++) {
            TwoProcessors x = Check.of(MANY);
            TwoProcessors y = Check.of(MANY);
            for (TwoProcessors z : new TwoProcessors[] {x, y}) {
                z.cycles(2);
                z.room(0, 1);
                z.feed(1, 2, 3, 4, 5);
            }
            int gone = n == 0 ? 0 : n <= 50 ? y.cycles(n) : y.cycles(50) + y.cycles(n - 50);
            CHECK.due("fewer", gone <= n, true);
            for (int what = -1; what <= 12; what++) {
                CHECK.due("ahead(" + n + ", " + what + ")", x.ahead(n, what), y.count(what));
            }
        }
    }

    private static void lateBounds() {
        CHECK.about("'TIME, if LATE were so much, 1 .. 9. NONE: none, or it can't be so'");
        TwoProcessors x = Check.of(MANY);
        for (int late = -1; late <= 11; late++) {
            boolean can = late >= 1 && late <= 9;
            CHECK.due("late(" + late + ")", x.late(late), can ? Check.of(MANY + "late " + late + ";").time() : NONE);
        }
        CHECK.due("late(4), as it is", x.late(4), 17);
        for (int late : new int[] {LOW, HIGH, 100}) {
            CHECK.due("late(" + late + ")", x.late(late), NONE);
        }
        x = Check.of("load b a 0;");
        CHECK.due("late(1)", x.late(1), 3);
        CHECK.due("late(9)", x.late(9), 11);
        CHECK.due("none: STUCK", Check.of(TWO_COPIES).late(9), NONE);
        CHECK.due("none: 999", Check.of("up:jump up;").late(9), NONE);
        CHECK.due("count(4) stays", x.count(4), 3);
    }

    private static void keepingBounds() {
        CHECK.about("'TIME, if one REGISTER more were kept (or none more, if it is in AIMS). NONE: none, or there is none such'");
        TwoProcessors x = Check.of(MANY);
        for (int r = 0; r < 8; r++) {
            CHECK.due("keeping(" + r + ")", x.keeping(r), Check.of(MANY + "keep " + (char) ('a' + r) + ";").time());
        }
        CHECK.due("keeping(0), in AIMS", x.keeping(0), x.time());
        for (int r : new int[] {-1, -2, 8, 9, LOW, HIGH}) {
            CHECK.due("keeping(" + r + ")", x.keeping(r), NONE);
        }
        CHECK.due("AIMS stay", x.count(3), 1);
        CHECK.due("none: 999", Check.of("up:jump up;").keeping(7), NONE);
        x = Check.of(TWO_COPIES);
        CHECK.due("none: STUCK", x.keeping(7), NONE);
        // The runner reckons it then, and no copy is sent.
        CHECK.due("keeping(6)", x.keeping(6), Check.of(TWO_COPIES + "keep g;").time());
        CHECK.due("is a TIME", x.keeping(6) > 0, true);
    }

    private static void bestOfSeveral() {
        CHECK.about("'The REGISTER that isn't in AIMS, by keeping which TIME is least, and less than without, of several the least'");
        CHECK.due("none is less", Check.of("load b a 0;").best(), NONE);
        CHECK.due("of none", new TwoProcessors().best(), NONE);
        CHECK.due("none is more than all", Check.of("room copies 1;add g a a;keep a;").best(), 6);
        CHECK.due("never a TIME", Check.of("up:jump up;").best(), NONE);
        // With a alone kept, each of the two ifs loses a cycle; b or c saves one of them.
        CHECK.due("of several the least", Check.of("keep a;if a<b on;on:if a<c to;to:end;").best(), 1);
        CHECK.due("of several the least", Check.of("keep a;if a<g on;on:if a<f to;to:end;").best(), 5);
        CHECK.due("the one that saves more", Check.of("keep a;if a<b on;on:if a<c to;to:if a<c by;by:end;").best(), 2);
        CHECK.due("the last", Check.of("keep a;if a<h on;on:end;").best(), 7);
        // Keeping a brings b along, and 11 as without; b alone brings 10.
        CHECK.due("one that another brings along",
            Check.of("keep d;xx:if d>b xx;if d>b xx;if d>b xx;add a b b;if a>e xx;if a>e xx;if a>e xx;").best(), 1);
        // With a alone kept, there is no TIME; with b, too, two cycles a round and an end: in 999, in 1000.
        String rounds = "keep a;reg b 499;reg c 1;up:add a a c;if a<b up;";
        CHECK.due("no TIME without", Check.of(rounds).time(), NONE);
        CHECK.due("999 with b", Check.of(rounds).keeping(1), 999);
        CHECK.due("none is more than 999", Check.of(rounds).best(), 1);
        CHECK.due("1000 is none", Check.of("set a 0;" + rounds).best(), NONE);
        CHECK.due("the first", Check.of("keep b;if a<b on;on:end;").best(), 0);
        CHECK.due("all are in AIMS", Check.of("keep a;keep b;keep c;keep d;keep e;keep f;keep g;keep h;if a<h on;on:end;").best(), NONE);
    }

    private static void leastBounds() {
        CHECK.about("'The least ROOM of a QUEUE, 1 .. 6 .. NONE: there is none such (of either; fast: no TIME by 6)'");
        TwoProcessors x = Check.of(MANY);
        for (int q : new int[] {-1, -2, 6, 7, LOW, HIGH}) {
            CHECK.due("least(" + q + ", false)", x.least(q, false), NONE);
            CHECK.due("least(" + q + ", true)", x.least(q, true), NONE);
        }
        for (int q = 0; q < 6; q++) {
            CHECK.due("least(" + q + ", false)", x.least(q, false), 1);
            CHECK.due("least(" + q + ", true) is one", x.least(q, true) >= 1, true);
        }
        // So many loads ahead of all gets: as many rooms are wanted, up to 6.
        for (int n = 1; n <= 9; n++) {
            TwoProcessors y = Check.of("late 9;" + "load b a 0;".repeat(n));
            CHECK.due("least(0, true) of " + n + " loads", y.least(0, true), Math.min(n, 6));
            CHECK.due("least(0, false) of " + n + " loads", y.least(0, false), 1);
        }
        // Two loads by 1: one is issued in 11, got in 20, ended in 21; by 2 in 12.
        CHECK.due("as by 6", Check.of("late 9;load b a 0;load b a 0;").time(), 12);
        CHECK.due("not by 1", Check.of("late 9;room loads 1;load b a 0;load b a 0;").time(), 21);
    }

    private static void leastAsTold() {
        CHECK.about("'least: (all others as told)'");
        for (String text : new String[] {MANY, TWO_COPIES, "late 9;room copies 2;room told 1;load b a 0;xx:if a<a xx;if a<a xx;add c a b;"}) {
            for (int q = 0; q < 6; q++) {
                int notStuck = NONE;
                int fast = NONE;
                int due = Check.of(text + "room " + QUEUES[q] + " 6;").time();
                for (int much = 6; much >= 1; much--) {
                    TwoProcessors y = Check.of(text + "room " + QUEUES[q] + " " + much + ";");
                    int time = y.time();
                    for (int i = 0; i < 20; i++) {
                        y.cycles(50);
                    }
                    notStuck = y.count(1) == 2 ? notStuck : much;
                    fast = due == NONE || time != due ? fast : much;
                }
                TwoProcessors x = Check.of(text);
                for (int other = 0; other < 6; other++) {
                    x.room(other, 6);
                }
                x.cycles(5);
                CHECK.due("least(" + q + ", false) of " + text, x.least(q, false), notStuck);
                CHECK.due("least(" + q + ", true) of " + text, x.least(q, true), fast);
            }
        }
    }

    private static void safeBounds() {
        CHECK.about("'The least ROOM of all QUEUES at once, 1 .. 6, by which it is not STUCK by 999'");
        CHECK.due("of none", new TwoProcessors().safe(), 1);
        CHECK.due("by 1", Check.of(MANY).safe(), 1);
        TwoProcessors x = Check.of(TWO_COPIES);
        CHECK.due("by 2", x.safe(), 2);
        CHECK.due("rooms stay", x.roomOf(3), 1);
        x.room(3, 6);
        CHECK.due("by 2, whatever there is now", x.safe(), 2);
        CHECK.due("by 2, whatever was told", Check.of(TWO_COPIES + "room copies 6;").safe(), 2);
    }

    private static void rounds(String text, int any, int losing, int where) {
        TwoProcessors x = Check.of(text);
        CHECK.due("rounds(0) of " + text, x.rounds(0), any);
        CHECK.due("rounds(1) of " + text, x.rounds(1), losing);
        CHECK.due("rounds(2) of " + text, x.rounds(2), where);
        for (int what : new int[] {-1, -2, 3, 4, LOW, HIGH}) {
            CHECK.due("rounds(" + what + ")", x.rounds(what), -2);
        }
    }

    private static void roundsBounds() {
        CHECK.about("'ROUND .. INSTRUCTIONS that can come to one another by STEPS, all such; one alone, if it can come to itself'");
        rounds("", 0, 0, 0);
        rounds("end;", 0, 0, 0);
        rounds("set a 1;load a a 0;if b<c on;on:end;", 0, 0, 0);
        rounds("up:jump up;", 1, 0, 0);
        rounds("up:if b<b up;", 1, 1, 1);
        rounds("up:set a 1;jump up;", 3, 0, 0);
        rounds("set a 1;up:set a 1;jump up;set a 1;", 6, 0, 0);
        // Behind an end, or a jump, nothing comes to what stands next.
        rounds("up:end;jump up;", 0, 0, 0);
        rounds("jump on;up:set a 1;on:end;jump up;", 0, 0, 0);
        rounds("up:jump on;set a 1;on:jump up;", 5, 0, 0);
        // Whatever is decided: both ways are gone.
        rounds("up:if a=a on;jump up;on:end;", 3, 3, 1);
        // Rounds side by side: one loses, the other doesn't; a round in a round is one.
        rounds("up:load a a 0;jump up;on:set b 1;jump on;", 15, 3, 1);
        rounds("up:set b 1;jump up;on:if b<c on;", 7, 4, 4);
        rounds("up:set b 1;on:set b 2;if b<c on;if b<d up;", 15, 15, 12);
        // What loses outside of rounds is none of them.
        rounds("load a a 0;up:set b 1;jump up;if b<c on;on:end;", 6, 0, 0);
        rounds("keep b;keep c;up:if b<c up;", 1, 0, 0);
        rounds("up:load b a 0;store b a 1;jump up;", 7, 0, 0);
        rounds("zz:" + "set a 1;".repeat(23) + "jump zz;", (1 << 24) - 1, 0, 0);
        rounds("end;".repeat(23) + "zz:if a<b zz;", 1 << 23, 1 << 23, 1 << 23);
        // Back from the last to the first, and from there to the end.
        rounds("zz:if a<b on;" + "set c 1;".repeat(21) + "jump zz;on:end;", (1 << 23) - 1, (1 << 23) - 1, 1);
    }

    private static void changedBounds() {
        CHECK.about("'the first NOW behind which a CELL holds another number than at the beginning. NONE: never .., or there is none such'");
        TwoProcessors x = Check.of("cell 0 4;cell 31 4;reg b 4;reg c 5;store c a 31;store b a 0;store c a 0;store b a 31;");
        // Placed and given in 1 .. 4, written in 2 .. 5.
        CHECK.due("changed(31)", x.changed(31), 2);
        CHECK.due("changed(0), the same number first", x.changed(0), 4);
        CHECK.due("changed(1), never", x.changed(1), NONE);
        for (int c : new int[] {-1, -2, 32, 33, LOW, HIGH}) {
            CHECK.due("changed(" + c + ")", x.changed(c), NONE);
        }
        x.cycles(50);
        CHECK.due("cell(31) is as at the beginning again", x.cell(31), 4);
        CHECK.due("changed(31)", x.changed(31), 2);
        CHECK.due("till STUCK", Check.of("room copies 1;add g a a;store a a 0;reg a 1;").changed(1), NONE);
    }

    private static void slippedBounds() {
        CHECK.about("'the first NOW at which SLIP is so much (0: at 0). NONE: never till DONE, STUCK, 999'");
        TwoProcessors x = Check.of("set b 1;set b 2;set b 3;");
        int[] due = {0, 3, 2, 1, NONE};
        for (int slip = 0; slip <= 4; slip++) {
            CHECK.due("slipped(" + slip + ")", x.slipped(slip), due[slip]);
        }
        for (int slip : new int[] {-1, -2, 5, 25, LOW, HIGH}) {
            CHECK.due("slipped(" + slip + ")", x.slipped(slip), NONE);
        }
        x = Check.of("keep a;set a 1;set a 2;set a 3;");
        CHECK.due("slipped(-3)", x.slipped(-3), 1);
        CHECK.due("slipped(-2)", x.slipped(-2), 2);
        CHECK.due("slipped(-1)", x.slipped(-1), 3);
        CHECK.due("slipped(-4)", x.slipped(-4), NONE);
        CHECK.due("slipped(0)", x.slipped(0), 0);
        CHECK.due("slipped(0) of none", new TwoProcessors().slipped(0), 0);
        // Just in the last cycle, STUCK or 999: the worker does 999 more than he.
        x = Check.of("keep a;up:add a a a;jump up;");
        CHECK.due("slipped(-999)", x.slipped(-999), 999);
        CHECK.due("slipped(-1000)", x.slipped(-1000), NONE);
    }

    private static void answers(String text, TwoProcessors x) {
        TwoProcessors fresh = Check.of(text);
        CHECK.due("time()", x.time(), fresh.time());
        CHECK.due("late(9)", x.late(9), fresh.late(9));
        CHECK.due("keeping(6)", x.keeping(6), fresh.keeping(6));
        CHECK.due("best()", x.best(), fresh.best());
        CHECK.due("safe()", x.safe(), fresh.safe());
        for (int q = 0; q < 6; q++) {
            CHECK.due("least(" + q + ", false)", x.least(q, false), fresh.least(q, false));
            CHECK.due("least(" + q + ", true)", x.least(q, true), fresh.least(q, true));
        }
        for (int c = 0; c < 32; c++) {
            CHECK.due("changed(" + c + ")", x.changed(c), fresh.changed(c));
        }
        for (int slip = -9; slip <= 9; slip++) {
            CHECK.due("slipped(" + slip + ")", x.slipped(slip), fresh.slipped(slip));
        }
        CHECK.due("alone(5, 0)", x.alone(5, 0), fresh.alone(5, 0));
        for (int what = 10; what < 52; what++) {
            CHECK.due("alone(400, " + what + ")", x.alone(400, what), fresh.alone(400, what));
        }
    }

    private static void fromTheBeginning() {
        CHECK.about("'(From the beginning, all as the text told, each ROOM, too, but for what is asked:)'");
        for (String text : new String[] {MANY, TWO_COPIES, "late 9;room loads 1;cell 0 7;load b a 0;load c a 1;store b a 2;add d b c;"}) {
            for (int cycles : new int[] {1, 2, 4, 7, 11, 50}) {
                for (int much : new int[] {1, 6}) {
                    TwoProcessors x = Check.of(text);
                    for (int q = 0; q < 6; q++) {
                        x.room(q, much);
                    }
                    x.cycles(cycles);
                    answers(text, x);
                }
            }
        }
    }
}
