/** The bounds of a CYCLE, as the document's term 3 names them: QUEUES empty and full, who WAITS for what, what ends. */
public final class CycleBoundsTest {
    private static final int NONE = TwoProcessors.NONE;
    private static final Check CHECK = new Check();
    private static final String[] QUEUES = {"loads", "stores", "data", "copies", "told", "asked"};
    /** Keeps the worker, alone, busy for four cycles. */
    private static final String BUSY = "set c 1;set c 1;set c 1;set c 1;";

    public static void main(String[] args) {
        fullByRoom();
        fullOfWhatIsPut();
        roomMadeLess();
        firstInFirstOut();
        loadsComeLate();
        loadsEmpty();
        fetchesTakeLate();
        copiesEmpty();
        copiesInOrder();
        toldEmpty();
        askedEmpty();
        memoryWritesOneAtMost();
        memoryWaitsForData();
        dataWaitForStores();
        issueTakesWhatIsThen();
        whatIsInAQueueStays();
        cellInStores();
        cellInStoresAheadOfFull();
        fetchBeginsBehindIt();
        copiesAheadOfFullAsked();
        passing();
        endedTriesNoMore();
        slipOfEachCycle();
        doneOnlyWithEmptyStores();
        stuckNotWhileLoadsCome();
        stuckNotWhileMemoryWrites();
        stuckNotWhileFetching();
        doneAheadOf999();
        stuckAheadOf999();
        neitherBy999();
        lost();
        CHECK.finish();
    }

    /** The reasons of so many cycles, one sign each: the runner's, then the worker's. */
    private static String track(TwoProcessors x, int cycles) {
        StringBuilder runner = new StringBuilder();
        StringBuilder worker = new StringBuilder();
        for (int i = 0; i < cycles && x.cycles(1) == 1; i++) {
            runner.append(x.side(0, 6));
            worker.append(x.side(1, 6));
        }
        return runner + "|" + worker;
    }

    private static void tracks(String text, String due) {
        CHECK.due("who waits for what: " + text, track(Check.of(text), due.indexOf('|')), due);
    }

    private static String times(int n, String what) {
        return what.repeat(Math.max(0, n));
    }

    private static void fullByRoom() {
        CHECK.about("'QUEUES, each .. with as many as its ROOM at most'");
        // Seven go into each queue, and nothing is taken out up to the ninth cycle.
        fills(0, "load b a 0;".repeat(7), 0, 0, 1);
        fills(1, "load b a 8;" + "store b a 0;".repeat(7), 1, 0, 2);
        fills(2, "load a a 0;" + "store b a 1;".repeat(7), 0, 1, 4);
        fills(3, "load b a 0;" + "add c a b;".repeat(7), 1, 0, 3);
        fills(4, "load b a 0;aa:if a<a aa;" + "if a<a aa;".repeat(6), 1, 0, 4);
        fills(5, "load a a 0;aa:if b<b aa;" + "if b<b aa;".repeat(6), 0, 1, 5);
    }

    private static void fills(int queue, String text, int ahead, int side, int reason) {
        for (int room = 1; room <= 6; room++) {
            TwoProcessors told = Check.of("late 9;room " + QUEUES[queue] + " " + room + ";" + text);
            TwoProcessors set = Check.of("late 9;" + text);
            set.room(queue, room);
            for (TwoProcessors x : new TwoProcessors[] {told, set}) {
                String of = QUEUES[queue] + ", room " + room + ": ";
                x.cycles(ahead + room);
                CHECK.due(of + "the last that finds room", x.queue(queue, -1), room);
                CHECK.due(of + "nobody waits for it", x.side(side, 10 + reason), 0);
                CHECK.due(of + "did", x.side(side, 6), 0);
                x.cycles(1);
                CHECK.due(of + "the first that does not", x.queue(queue, -1), room);
                CHECK.due(of + "reason", x.side(side, 6), reason);
                CHECK.due(of + "queue(.., room - 1)", x.queue(queue, room - 1) == -2, false);
                CHECK.due(of + "queue(.., room)", x.queue(queue, room), -2);
                x.cycles(8 - ahead - room);
                CHECK.due(of + "it waits on, to the ninth cycle", x.side(side, 10 + reason), 9 - ahead - room);
            }
        }
    }

    private static void fullOfWhatIsPut() {
        CHECK.about("'2 place, put: STORES are full'");
        for (int room = 1; room <= 6; room++) {
            // What is placed first waits for what is loaded late, so nothing is written up to the eleventh cycle.
            TwoProcessors x = Check.of("late 9;room stores " + room + ";load b a 8;store b a 0;" + "store a a 1;".repeat(7));
            x.cycles(room + 1);
            CHECK.due("room " + room + ": the last that finds room", x.queue(1, -1), room);
            CHECK.due("room " + room + ": did", x.side(0, 6), 0);
            x.cycles(1);
            CHECK.due("room " + room + ": full", x.queue(1, -1), room);
            CHECK.due("room " + room + ": put waits", x.side(0, 6), 2);
        }
        // Full behind the runner's try is not full in the next: memory comes first.
        tracks("room stores 1;store a a 0;store a a 1;store a a 2;", "0000|0000");
    }

    private static void roomMadeLess() {
        CHECK.about("'ROOM of a QUEUE is so much from now on (what is there stays)'");
        TwoProcessors x = Check.of("late 9;room loads 6;load b a 0;load c a 1;load d a 2;load e a 3;load f a 4;");
        x.cycles(3);
        x.room(0, 1);
        CHECK.due("what is there stays", x.queue(0, -1), 3);
        CHECK.due("less than there are", track(x, 1), "1|1");
        x.room(0, 2);
        CHECK.due("one less than there are", track(x, 1), "1|1");
        x.room(0, 3);
        CHECK.due("as many as there are", track(x, 1), "1|1");
        CHECK.due("all are there", x.queue(0, -1), 3);
        x.room(0, 4);
        CHECK.due("one more", track(x, 1), "0|1");
        CHECK.due("one more is there", x.queue(0, -1), 4);
        CHECK.due("full again", track(x, 1), "1|1");
        x.room(0, 1);
        // Issued in 1, 2, 3, 7; got in 10, 11, 12, 16; the last one finds room for one in 17.
        CHECK.due("they come one by one", track(x, 9), "111111110|100011101");
        CHECK.due("count(0)", x.count(0), 17);
    }

    private static void firstInFirstOut() {
        CHECK.about("'QUEUES, each first in, first out'");
        StringBuilder copy = new StringBuilder();
        StringBuilder cells = new StringBuilder();
        for (int i = 0; i < 12; i++) {
            cells.append("cell ").append(i).append(' ').append(101 + i).append(';');
            copy.append("load b a ").append(i).append(";store b a ").append(i + 16).append(';');
        }
        String sums = "keep a;keep e;reg d 1;reg e 9;up:add c c c;add c c a;sub f a c;add a a d;if a<e up;";
        String odd = "keep a;keep e;reg d 1;reg e 9;up:sub b d b;if b=d on;add c c c;jump to;on:add c c d;to:add a a d;if a<e up;";
        String told = "keep a;keep b;keep e;reg d 1;reg e 9;up:sub b d b;if b=d on;add c c c;jump to;on:add c c d;to:add a a d;if a<e up;";
        for (int room = 1; room <= 6; room++) {
            for (String text : new String[] {cells + copy.toString(), sums, odd, told}) {
                TwoProcessors x = Check.of(text);
                for (int q = 0; q < 6; q++) {
                    x.room(q, room);
                }
                for (int i = 0; i < 20; i++) {
                    x.cycles(50);
                }
                CHECK.due("DONE", x.count(1), 1);
                for (int r = 0; r < 8; r++) {
                    CHECK.due("as by one alone: register(" + r + ")", x.register(r), x.alone(400, 10 + r));
                }
                for (int c = 0; c < 32; c++) {
                    CHECK.due("as by one alone: cell(" + c + ")", x.cell(c), x.alone(400, 20 + c));
                }
            }
        }
        CHECK.due("1 4 11 26 57 120 247 502", Check.of(sums).alone(400, 12), 502);
    }

    private static void loadsComeLate() {
        CHECK.about("'it has COME LATE CYCLES behind the CYCLE it was issued in'");
        for (int late = 1; late <= 9; late++) {
            String text = "late " + late + ";cell 0 5;load b a 0;";
            tracks(text, "00" + times(late, "0") + "|" + times(late, "1") + "00");
            TwoProcessors x = Check.of(text);
            x.cycles(late);
            CHECK.due("not got yet", x.queue(0, -1), 1);
            CHECK.due("register(1)", x.register(1), 0);
            x.cycles(1);
            CHECK.due("got", x.queue(0, -1), 0);
            CHECK.due("register(1)", x.register(1), 5);
            CHECK.due("TIME", x.time(), late + 2);
        }
        // Each has come so many cycles behind its own; one got a cycle.
        tracks("late 3;load b a 0;load c a 0;load d a 0;", "0000000|1110000");
        // It has come long since, as he comes to get it.
        tracks("late 2;" + BUSY + "load b a 0;", "000000|000000");
    }

    private static void loadsEmpty() {
        CHECK.about("'1 get: the first one in LOADS has not COME, or there is none'");
        TwoProcessors x = Check.of("late 2;load a a 0;load b a 0;");
        // Fetched in 3; issued in 4; got in 6.
        CHECK.due("who waits", track(x, 3), "770|111");
        CHECK.due("there is none", x.queue(0, -1), 0);
        CHECK.due("who waits", track(x, 2), "00|11");
        CHECK.due("it has not come", x.queue(0, -1), 1);
        CHECK.due("who waits", track(x, 1), "0|0");
    }

    private static void fetchesTakeLate() {
        CHECK.about("'7 fetch: it has begun less than LATE CYCLES ago .. is done LATE CYCLES behind that'");
        for (int late = 1; late <= 9; late++) {
            String text = "late " + late + ";cell 0 5;load a a 0;";
            tracks(text, times(late, "7") + "00|" + times(late + 2, "0"));
            TwoProcessors x = Check.of(text);
            x.cycles(late);
            CHECK.due("not fetched yet", x.register(0), 0);
            CHECK.due("deeds done", x.side(0, 3), 0);
            x.cycles(1);
            CHECK.due("fetched", x.register(0), 5);
            CHECK.due("side(0, 17)", x.side(0, 17), late);
        }
        // The second begins anew, in the cycle behind the first.
        tracks("late 2;cell 0 3;load a a 0;load a a 0;", "7707700|0000000");
    }

    private static void copiesEmpty() {
        CHECK.about("'2 a DEED of which 1 or 2 of what it reckons with are COPIES: there are not as many (he takes all at once)'");
        // Fetched in 4; the copy is sent in 5, and there for the worker in the same cycle.
        tracks("load a a 0;add c a b;", "777000|222200");
        tracks("load a a 0;sub c b a;", "777000|222200");
        tracks("load a a 0;xx:if a<b xx;", "7770000|2222000");
        tracks("load a a 0;xx:if b<a xx;", "7770000|2222000");
        TwoProcessors x = Check.of("load a a 0;mul c a a;");
        CHECK.due("who waits", track(x, 5), "77700|22222");
        CHECK.due("one of two is there, and stays", x.queue(3, -1), 1);
        CHECK.due("who waits", track(x, 1), "0|0");
        CHECK.due("both are taken", x.queue(3, -1), 0);
        // None is wanted.
        tracks("load a a 0;add c b b;set c 5;", "77700|00000");
        // More are there than are wanted: he takes his own alone.
        x = Check.of("load b a 0;add c a b;add c a b;");
        CHECK.due("who waits", track(x, 5), "00000|11100");
        CHECK.due("one is left", x.queue(3, -1), 1);
    }

    private static void copiesInOrder() {
        CHECK.about("'(those in AIMS, each its own, in the order in which they stand)'");
        String regs = "reg a 7;reg b 2;reg d 1;keep a;keep b;";
        String[] texts = {"sub c a b;", "sub c b a;", "sub c a d;", "sub c d a;", "sub c b d;", "mul c a a;"};
        int[] due = {5, 995, 6, 994, 1, 49};
        for (int i = 0; i < texts.length; i++) {
            TwoProcessors x = Check.of(regs + texts[i]);
            x.cycles(50);
            CHECK.due(texts[i], x.register(2), due[i]);
            CHECK.due("COPIES behind it", x.queue(3, -1), 0);
        }
        TwoProcessors x = Check.of(regs + "load h a 0;sub c a b;sub e b a;");
        x.cycles(4);
        CHECK.due("queue(3, 0)", x.queue(3, 0), 7);
        CHECK.due("queue(3, 1)", x.queue(3, 1), 2);
        CHECK.due("queue(3, 2)", x.queue(3, 2), 2);
    }

    private static void toldEmpty() {
        CHECK.about("'3 heed: TOLD is empty (else he takes the first, and goes by it)'");
        tracks("load a a 0;xx:if a>a xx;", "777000|333300");
        TwoProcessors x = Check.of("late 9;load b a 0;if a=a on;end;on:if a<a to;set c 5;to:end;");
        x.cycles(3);
        CHECK.due("queue(4, 0)", x.queue(4, 0), 1);
        CHECK.due("queue(4, 1)", x.queue(4, 1), 0);
        x.cycles(8);
        CHECK.due("the first is taken", x.queue(4, -1), 1);
        CHECK.due("and gone by", x.side(1, 1), 3);
        CHECK.due("the second is there", x.queue(4, 0), 0);
        x.cycles(1);
        CHECK.due("the second is taken", x.queue(4, -1), 0);
        CHECK.due("and gone by", x.side(1, 1), 4);
    }

    private static void askedEmpty() {
        CHECK.about("'5 ask: ASKED is empty (else he takes the first, and goes by it)'");
        tracks("xx:if b>b xx;", "500|000");
        tracks(BUSY + "xx:if b>b xx;", "5555500|0000000");
        TwoProcessors x = Check.of("late 4;load a a 0;if b=c on;end;on:if b<c to;set c 5;to:end;");
        x.cycles(2);
        CHECK.due("queue(5, 0)", x.queue(5, 0), 1);
        CHECK.due("queue(5, 1)", x.queue(5, 1), 0);
        x.cycles(4);
        CHECK.due("the first is taken", x.queue(5, -1), 1);
        CHECK.due("and gone by", x.side(0, 1), 3);
        CHECK.due("the second is there", x.queue(5, 0), 0);
        x.cycles(1);
        CHECK.due("the second is taken", x.queue(5, -1), 0);
        CHECK.due("and gone by", x.side(0, 1), 4);
    }

    private static void written(TwoProcessors x, int cycles, int stores, int data, int wrote) {
        x.cycles(cycles);
        CHECK.due("STORES at " + x.count(0), x.queue(1, -1), stores);
        CHECK.due("DATA at " + x.count(0), x.queue(2, -1), data);
        CHECK.due("count(11) at " + x.count(0), x.count(11), wrote);
    }

    private static void memoryWritesOneAtMost() {
        CHECK.about("'MEMORY: the first one in STORES .. is written; one at most'");
        TwoProcessors x = Check.of("late 4;load b a 0;store b a 1;store a a 2;store a a 3;");
        written(x, 4, 3, 0, 0);
        written(x, 2, 3, 1, 0);
        written(x, 1, 2, 0, 1);
        CHECK.due("queue(1, 0)", x.queue(1, 0), 2);
        written(x, 1, 1, 0, 2);
        CHECK.due("count(1)", x.count(1), 0);
        written(x, 1, 0, 0, 3);
        CHECK.due("count(1)", x.count(1), 1);
        x = Check.of("store a a 1;");
        written(x, 1, 1, 0, 0);
        written(x, 1, 0, 0, 1);
        written(Check.of("end;"), 50, 0, 0, 0);
    }

    private static void memoryWaitsForData() {
        CHECK.about("'.. if it was put, or if there are DATA (the first ones of which it takes)'");
        TwoProcessors x = Check.of("reg a 9;reg b 7;reg d 8;" + BUSY + "store b a 1;store a a 2;store d a 3;");
        written(x, 3, 3, 0, 0);
        // Given in 5 and 6; what was put stands between, and takes none.
        written(x, 2, 3, 1, 0);
        written(x, 1, 2, 1, 1);
        CHECK.due("cell(10)", x.cell(10), 7);
        written(x, 1, 1, 1, 2);
        CHECK.due("cell(11)", x.cell(11), 9);
        written(x, 1, 0, 0, 3);
        CHECK.due("cell(12)", x.cell(12), 8);
        // A store of the same cell again: the later one stands.
        x = Check.of("reg b 7;reg d 8;store b a 1;store d a 1;");
        x.cycles(50);
        CHECK.due("cell(1)", x.cell(1), 8);
        CHECK.due("count(11)", x.count(11), 2);
    }

    private static void dataWaitForStores() {
        CHECK.about("DATA that are given ahead of what is placed stay");
        TwoProcessors x = Check.of("reg b 7;reg c 8;load a a 0;store b a 1;store c a 2;");
        written(x, 3, 0, 2, 0);
        CHECK.due("queue(2, 0)", x.queue(2, 0), 7);
        CHECK.due("queue(2, 1)", x.queue(2, 1), 8);
        written(x, 2, 1, 2, 0);
        written(x, 1, 1, 1, 1);
        CHECK.due("cell(1)", x.cell(1), 7);
        written(x, 1, 0, 0, 2);
        CHECK.due("cell(2)", x.cell(2), 8);
    }

    private static void issueTakesWhatIsThen() {
        CHECK.about("'An issue takes what the CELL holds then'");
        TwoProcessors x = Check.of("late 9;cell 0 1;reg b 7;load c a 0;store b a 0;");
        x.cycles(1);
        CHECK.due("queue(0, 0)", x.queue(0, 0), 1);
        x.cycles(50);
        CHECK.due("register(2)", x.register(2), 1);
        CHECK.due("cell(0)", x.cell(0), 7);
        x = Check.of("late 9;cell 0 1;load c a 0;store a a 0;");
        x.cycles(4);
        CHECK.due("cell(0), put behind the issue", x.cell(0), 0);
        CHECK.due("queue(0, 0), as it was", x.queue(0, 0), 1);
        x.cycles(50);
        CHECK.due("register(2)", x.register(2), 1);
    }

    private static void whatIsInAQueueStays() {
        CHECK.about("what is put, given, sent, told is what it was then, though it changes while it waits");
        // The first store waits for what is loaded late; all others behind it.
        TwoProcessors x = Check.of("late 9;keep c;reg c 5;load b a 8;store b a 0;store c a 1;set c 9;");
        x.cycles(5);
        CHECK.due("the runner's c", x.register(2), 9);
        CHECK.due("not written yet", x.cell(1), 0);
        x.cycles(50);
        CHECK.due("what was put", x.cell(1), 5);
        x = Check.of("late 9;reg c 5;load a a 8;store c a 1;set c 9;");
        x.cycles(5);
        CHECK.due("the worker's c", x.register(2), 9);
        CHECK.due("queue(2, 0)", x.queue(2, 0), 5);
        x.cycles(50);
        CHECK.due("what was given", x.cell(1), 5);
        x = Check.of("late 9;keep c;reg c 5;load b a 8;add d b c;set c 9;");
        x.cycles(5);
        CHECK.due("the runner's c", x.register(2), 9);
        CHECK.due("queue(3, 0)", x.queue(3, 0), 5);
        x.cycles(50);
        CHECK.due("what was sent", x.register(3), 5);
        x = Check.of("late 9;keep c;reg c 5;load b a 8;if c>a on;set d 1;on:set c 0;");
        x.cycles(5);
        CHECK.due("the runner's c", x.register(2), 0);
        CHECK.due("queue(4, 0)", x.queue(4, 0), 1);
        x.cycles(50);
        CHECK.due("what was told", x.register(3), 0);
        // The cell of a store is that of the register as it was.
        x = Check.of("late 9;reg c 5;load b a 8;store b c 0;set c 9;");
        x.cycles(4);
        CHECK.due("queue(1, 0)", x.queue(1, 0), 5);
    }

    private static void cellInStores() {
        CHECK.about("'6 issue, fetch: the CELL is in STORES'");
        // Placed in 1, 2, 3; given in 5, 6, 7; written in 6, 7, 8.
        String stores = "late 1;reg e 32;" + BUSY + "store b a 1;store b a 2;store b a 3;";
        tracks(stores + "load d a 0;", "0000|0000");
        tracks(stores + "load d a 1;", "000660|000000");
        tracks(stores + "load d a 2;", "0006660|0000000");
        tracks(stores + "load d a 3;", "00066660|00000001");
        tracks(stores + "load d a 4;", "0000|0000");
        tracks(stores + "load d e 1;", "000660|000000");
        tracks(stores + "load d e 0;", "0000|0000");
        tracks("keep e;" + stores + "load e a 1;", "0006670|0000000");
        tracks("keep e;" + stores + "load e a 3;", "000666670|000000000");
        tracks("keep e;" + stores + "load e a 4;", "00070|00000");
        // Twice in STORES: he waits for both.
        tracks("late 1;" + BUSY + "store b a 1;store b a 1;load d a 1;", "0066660|0000001");
        // What was put is written in the next cycle, ahead of his try.
        tracks("late 1;store a a 1;load d a 1;", "00|11");
    }

    private static void cellInStoresAheadOfFull() {
        CHECK.about("'6 .. (asked ahead of 1)'");
        // Full from 2 to 11; the cell is in STORES till it is written in 6.
        String text = "late 9;room loads 1;" + BUSY + "store b a 1;load d a 0;load e a 1;";
        tracks(text, "0066611111100|0000011111011");
        TwoProcessors x = Check.of(text);
        x.cycles(12);
        CHECK.due("side(0, 16)", x.side(0, 16), 3);
        CHECK.due("side(0, 11)", x.side(0, 11), 6);
    }

    private static void fetchBeginsBehindIt() {
        CHECK.about("'it begins in the CYCLE of its first try that isn't WAITING for 6'");
        String text = "late 2;reg b 5;" + BUSY + "store b a 1;load a a 1;";
        tracks(text, "066667700|000000000");
        TwoProcessors x = Check.of(text);
        x.cycles(7);
        CHECK.due("not fetched yet", x.register(0), 0);
        x.cycles(1);
        CHECK.due("what was written is fetched", x.register(0), 5);
        CHECK.due("count(9)", x.count(9), 6);
    }

    private static void copiesAheadOfFullAsked() {
        CHECK.about("'5 judge: ASKED is full (2 is asked ahead of it)'");
        String fetch = "late 4;room asked 1;load a a 0;xx:if b<c xx;";
        tracks(fetch + "if a<b xx;", "777700000|022222000");
        tracks(fetch + "if b<a xx;", "777700000|022222000");
        // Without a copy to wait for, it is full till the runner has asked, in 6.
        tracks(fetch + "if b<c xx;", "77770000|05555000");
    }

    private static void side(TwoProcessors x, int side, int at, int next, int done, int passed, int ended) {
        int[] due = {at, next, done, passed, ended};
        for (int what = 1; what <= 5; what++) {
            CHECK.due("side(" + side + ", " + what + ") at " + x.count(0), x.side(side, what), due[what - 1]);
        }
    }

    private static void passing() {
        CHECK.about("'as he comes to try, he first PASSES all of those, one by one, in which he has no DEED; by the last DEED ..'");
        TwoProcessors x = Check.of("keep a;set a 1;set a 2;set a 3;set b 1;");
        side(x, 1, 0, 0, 0, 0, 0);
        x.cycles(1);
        side(x, 0, 1, 0, 1, 1, 0);
        side(x, 1, 4, 0, 1, 4, 0);
        x.cycles(1);
        CHECK.due("end is PASSED, too", x.side(1, 4), 5);
        CHECK.due("he ENDED", x.side(1, 5), 1);
        x.cycles(1);
        side(x, 0, 3, 0, 3, 3, 0);
        x.cycles(1);
        CHECK.due("the runner passes one, and ends in the same cycle", x.side(0, 4), 5);
        CHECK.due("DONE", x.count(1), 1);
        // He passes, though he waits then.
        x = Check.of("keep a;set a 1;set a 2;load c a 0;");
        x.cycles(1);
        side(x, 1, 2, 0, 0, 2, 0);
        CHECK.due("he waits", x.side(1, 6), 1);
        // Of two deeds the last one passes.
        x = Check.of("keep a;add b a a;");
        x.cycles(1);
        side(x, 0, 0, 1, 1, 0, 0);
        x.cycles(1);
        side(x, 0, 1, 0, 2, 1, 0);
        // All 24 in one cycle, and the end behind them.
        x = Check.of("set b 1;".repeat(24));
        x.cycles(1);
        CHECK.due("side(0, 4)", x.side(0, 4), 25);
        CHECK.due("side(0, 3)", x.side(0, 3), 1);
        CHECK.due("count(5)", x.count(5), 24);
        CHECK.due("TIME", x.time(), 25);
    }

    private static void endedTriesNoMore() {
        CHECK.about("'tries his next DEED (he who ENDED doesn't)'");
        TwoProcessors x = Check.of("end;set a 1;set b 2;");
        CHECK.due("cycles(50)", x.cycles(50), 1);
        CHECK.due("register(0)", x.register(0), 0);
        x = Check.of("set b 1;set b 2;set b 3;end;set b 4;");
        x.cycles(1);
        CHECK.due("the runner ENDED", x.side(0, 5), 1);
        x.cycles(50);
        CHECK.due("what he did", x.side(0, 3), 1);
        CHECK.due("what he passed", x.side(0, 4), 4);
        CHECK.due("did(0, 3, 0)", x.did(0, 3, 0), 1);
        CHECK.due("register(1)", x.register(1), 3);
        CHECK.due("TIME", x.time(), 4);
        x = Check.of("keep a;set a 1;set a 2;load a a 0;");
        x.cycles(50);
        CHECK.due("the worker waits for nothing", x.side(1, 6) + x.side(1, 11), 0);
        CHECK.due("what he did", x.side(1, 3), 1);
        CHECK.due("what he passed", x.side(1, 4), 4);
    }

    private static void slipOfEachCycle() {
        CHECK.about("'SLIP: how many INSTRUCTIONS the RUNNER has PASSED more than the WORKER (below 0, too), behind each CYCLE'");
        String ahead = "set b 1;set b 2;set b 3;";
        String behind = "keep a;set a 1;set a 2;set a 3;";
        int[][] due = {{0, 3, 2, 1, 0}, {0, -3, -2, -1, 0}};
        int[] together = {6, -6};
        for (int t = 0; t < 2; t++) {
            TwoProcessors x = Check.of(t == 0 ? ahead : behind);
            int sum = 0;
            for (int now = 0; now <= 4; now++) {
                CHECK.due("count(5) at " + now, x.count(5), due[t][now]);
                sum += due[t][now];
                CHECK.due("count(8) at " + now, x.count(8), sum);
                boolean first = now == 0;
                CHECK.due("count(6) at " + now, x.count(6), t == 0 && !first ? 3 : 0);
                CHECK.due("count(7) at " + now, x.count(7), t == 1 && !first ? -3 : 0);
                x.cycles(1);
            }
            CHECK.due("count(8)", x.count(8), together[t]);
        }
        // The greatest and the least come one behind the other, and stay.
        TwoProcessors x = Check.of("keep a;set a 1;set a 2;set b 1;set b 2;set b 3;set b 4;");
        int[] slips = {-2, -2, 2, 1, 0};
        for (int i = 0; i < slips.length; i++) {
            x.cycles(1);
            CHECK.due("count(5) at " + x.count(0), x.count(5), slips[i]);
        }
        CHECK.due("count(6)", x.count(6), 2);
        CHECK.due("count(7)", x.count(7), -2);
    }

    private static void doneOnlyWithEmptyStores() {
        CHECK.about("'It is DONE behind a CYCLE, if both ENDED and STORES are empty'");
        TwoProcessors x = Check.of("late 9;load b a 0;store b a 1;store a a 2;store a a 3;");
        x.cycles(12);
        CHECK.due("both ENDED", x.side(0, 5) + x.side(1, 5), 2);
        CHECK.due("STORES", x.queue(1, -1), 2);
        CHECK.due("count(1)", x.count(1), 0);
        CHECK.due("cycles(1)", x.cycles(1), 1);
        CHECK.due("STORES", x.queue(1, -1), 1);
        CHECK.due("count(1)", x.count(1), 0);
        CHECK.due("cycles(50)", x.cycles(50), 1);
        CHECK.due("STORES", x.queue(1, -1), 0);
        CHECK.due("count(1)", x.count(1), 1);
        CHECK.due("cycles(1)", x.cycles(1), 0);
        CHECK.due("TIME", x.time(), 14);
        // STORES are empty, one of them has not ENDED.
        x = Check.of("set b 1;");
        x.cycles(1);
        CHECK.due("the runner alone ENDED", x.side(0, 5) * 2 + x.side(1, 5), 2);
        CHECK.due("count(1)", x.count(1), 0);
        x = Check.of("keep b;set b 1;");
        x.cycles(1);
        CHECK.due("the worker alone ENDED", x.side(0, 5) * 2 + x.side(1, 5), 1);
        CHECK.due("count(1)", x.count(1), 0);
        x.cycles(1);
        CHECK.due("count(1)", x.count(1), 1);
    }

    private static void outcomes(String text, String due) {
        TwoProcessors x = Check.of(text);
        StringBuilder all = new StringBuilder();
        for (int i = 0; i < 20 && x.cycles(1) == 1; i++) {
            all.append(x.count(1));
        }
        CHECK.due("count(1) behind each cycle: " + text, all.toString(), due);
    }

    private static void stuckNotWhileLoadsCome() {
        CHECK.about("'STUCK: .. and all LOADS have COME'");
        // Nobody does a deed in 2 and 3: the load comes in 4. Then nothing is to come.
        outcomes("room copies 1;late 3;load f a 0;add g a a;", "00002");
        outcomes("room copies 1;late 1;load f a 0;add g a a;", "002");
        outcomes("room copies 1;late 9;load f a 0;add g a a;", "00000000002");
        outcomes("room loads 1;late 9;load b a 0;load c a 0;", "00000000000000000000");
        TwoProcessors x = Check.of("room loads 1;late 9;load b a 0;load c a 0;");
        CHECK.due("who waits", track(x, 9), "011111111|111111111");
        CHECK.due("count(1)", x.count(1), 0);
        CHECK.due("TIME", x.time(), 21);
    }

    private static void stuckNotWhileMemoryWrites() {
        CHECK.about("'STUCK: .. in that CYCLE nothing was written'");
        // In 5 both wait, and memory writes; in 6 nothing is left to be written.
        String text = "room copies 1;set c 1;set c 1;store b a 1;store b a 2;add g a a;";
        tracks(text, "000333|000022");
        outcomes(text, "000002");
    }

    private static void stuckNotWhileFetching() {
        CHECK.about("'STUCK: .. nor was a fetch under way'");
        tracks("late 9;load a a 0;add c a b;", "777777777000|222222222200");
        outcomes("late 9;load a a 0;add c a b;", "000000000001");
        outcomes("late 9;room copies 1;load a a 0;add c a a;", "000000000002");
        // It stays STUCK, whatever room there is then.
        TwoProcessors x = Check.of("room copies 1;load f a 0;add g a a;");
        x.cycles(50);
        CHECK.due("count(1)", x.count(1), 2);
        x.room(3, 6);
        CHECK.due("cycles(50)", x.cycles(50), 0);
        CHECK.due("ahead(60, 0)", x.ahead(60, 0), 5);
        CHECK.due("count(0)", x.count(0), 5);
    }

    /** So many rounds of two cycles each, the runner's; the worker heeds in the same cycles. */
    private static String rounds(int n) {
        return "keep a;keep b;reg b " + n + ";reg c 1;up:add a a c;if a<b up;";
    }

    private static TwoProcessors to999(String text, int now, int outcome) {
        TwoProcessors x = Check.of(text);
        int gone = 0;
        for (int i = 0; i < 20; i++) {
            gone += x.cycles(50);
        }
        CHECK.due("cycles of " + text, gone, now);
        CHECK.due("count(0) of " + text, x.count(0), now);
        CHECK.due("count(1) of " + text, x.count(1), outcome);
        CHECK.due("cycles(1) behind it", x.cycles(1), 0);
        return x;
    }

    private static void doneAheadOf999() {
        CHECK.about("'(What ends is asked in this order.) .. DONE .. or NOW is 999': DONE in 998, 999, 1000");
        TwoProcessors x = to999("keep d;set d 1;" + rounds(498), 998, 1);
        CHECK.due("time()", x.time(), 998);
        x = to999(rounds(499), 999, 1);
        CHECK.due("time()", x.time(), 999);
        CHECK.due("keeping(4)", x.keeping(4), 999);
        CHECK.due("late(1)", x.late(1), 999);
        CHECK.due("least(0, true)", x.least(0, true), 1);
        x = to999("keep d;set d 1;" + rounds(499), 999, 3);
        CHECK.due("time()", x.time(), NONE);
        CHECK.due("keeping(4)", x.keeping(4), NONE);
        CHECK.due("late(1)", x.late(1), NONE);
        CHECK.due("least(0, true)", x.least(0, true), NONE);
        CHECK.due("least(0, false)", x.least(0, false), 1);
        CHECK.due("safe()", x.safe(), 1);
    }

    private static void stuckAheadOf999() {
        CHECK.about("'(What ends is asked in this order.) .. STUCK, or NOW is 999': STUCK in 998, 999, 1000");
        String wants = "room copies 1;add g a a;";
        TwoProcessors x = to999(rounds(498) + wants, 998, 2);
        CHECK.due("least(3, false)", x.least(3, false), 2);
        x = to999("keep d;set d 1;" + rounds(498) + wants, 999, 2);
        CHECK.due("least(3, false)", x.least(3, false), 2);
        CHECK.due("least(0, false)", x.least(0, false), NONE);
        CHECK.due("least(3, true), no TIME by 6", x.least(3, true), NONE);
        CHECK.due("safe()", x.safe(), 2);
        CHECK.due("time()", x.time(), NONE);
        x = to999(rounds(499) + wants, 999, 3);
        CHECK.due("least(3, false)", x.least(3, false), 1);
        CHECK.due("least(0, false)", x.least(0, false), 1);
        CHECK.due("safe()", x.safe(), 1);
        CHECK.due("time()", x.time(), NONE);
    }

    private static void neitherBy999() {
        CHECK.about("'It goes on till it is DONE, or STUCK, or NOW is 999'");
        TwoProcessors x = to999("up:jump up;", 999, 3);
        CHECK.due("side(0, 3)", x.side(0, 3), 999);
        CHECK.due("side(1, 4)", x.side(1, 4), 999);
        CHECK.due("did(0, 0, 0)", x.did(0, 0, 0), 999);
        CHECK.due("ahead(60, 0)", x.ahead(60, 0), 999);
        x.begin();
        CHECK.due("cycles(50) from the beginning", x.cycles(50), 50);
        CHECK.due("count(1)", x.count(1), 0);
        for (int i = 0; i < 18; i++) {
            x.cycles(50);
        }
        CHECK.due("cycles(48)", x.cycles(48), 48);
        CHECK.due("count(1) at 998", x.count(1), 0);
        CHECK.due("ahead(0, 1)", x.ahead(0, 1), 0);
        CHECK.due("ahead(1, 1)", x.ahead(1, 1), 3);
        CHECK.due("ahead(60, 0)", x.ahead(60, 0), 999);
        CHECK.due("cycles(2)", x.cycles(2), 1);
        CHECK.due("count(1) at 999", x.count(1), 3);
        // Written in 999, and in 1000.
        x = to999("keep d;set d 1;" + rounds(498) + "store a d 0;", 999, 1);
        CHECK.due("cell(1)", x.cell(1), 498);
        CHECK.due("changed(1)", x.changed(1), 999);
        x = to999(rounds(499) + "store a d 0;", 999, 3);
        CHECK.due("cell(0)", x.cell(0), 0);
        CHECK.due("STORES", x.queue(1, -1), 1);
        CHECK.due("changed(0)", x.changed(0), NONE);
    }

    private static void lost(String text, int cycles, int due) {
        TwoProcessors x = Check.of(text);
        x.cycles(cycles);
        CHECK.due("count(9) of " + text, x.count(9), due);
        CHECK.due("as the reasons", x.side(0, 15) + x.side(0, 16) + x.side(0, 17), due);
    }

    private static void lost() {
        CHECK.about("'LOST: CYCLES in which the RUNNER WAITED for 5, 6, or 7'");
        lost("room loads 1;load b a 0;load c a 1;", 50, 0);
        lost("late 9;room stores 1;load b a 0;store b a 1;store b a 2;", 50, 0);
        lost("late 9;room copies 1;load b a 0;add c a b;add c a b;", 50, 0);
        lost("late 9;room told 1;load b a 0;xx:if a<a xx;if a<a xx;", 50, 0);
        lost(BUSY + "xx:if b<b xx;", 50, 5);
        lost("late 2;" + BUSY + "store b a 1;load d a 1;", 50, 4);
        lost("late 2;load a a 0;", 50, 2);
        lost("late 2;" + BUSY + "store b a 1;load a a 1;xx:if a<b xx;", 50, 6);
        lost("late 2;load a a 0;", 1, 1);
        // What the worker waits for is not lost.
        lost("late 9;load b a 0;room asked 1;", 50, 0);
    }
}
