/** What an object shows, as one text, so that two can be compared; of a short program, with some 150 calls, or 300. */
final class Seen {
    private final StringBuilder all = new StringBuilder();
    private final TwoProcessors x;

    private Seen(TwoProcessors x) {
        this.x = x;
    }

    /** What shows at once, and changes nothing. */
    static String now(TwoProcessors x) {
        Seen seen = new Seen(x);
        seen.add("fault", x.fault(0), x.fault(1));
        seen.add("tape", x.count(10));
        seen.machine();
        return seen.all.toString();
    }

    /** All but the tape and the fault. */
    static String nowOfMachine(TwoProcessors x) {
        Seen seen = new Seen(x);
        seen.machine();
        return seen.all.toString();
    }

    /** What shows at once, and then what is hidden: going on, beginning again, taking the tape. */
    static String whole(TwoProcessors x) {
        Seen seen = new Seen(x);
        seen.add("fault", x.fault(0), x.fault(1));
        seen.add("tape", x.count(10));
        seen.machine();
        seen.goingOn();
        x.begin();
        seen.counts();
        seen.rooms();
        seen.add("program", x.program(), x.fault(0), x.fault(1), x.count(2), x.count(3), x.count(4), x.time());
        return seen.all.toString();
    }

    private void machine() {
        counts();
        for (int side = 0; side < 2; side++) {
            for (int what = 0; what <= 17; what++) {
                if (what < 7 || what > 10) {
                    add("side" + side + "/" + what, x.side(side, what));
                }
            }
        }
        rooms();
        queues();
        memory();
        code();
    }

    private void counts() {
        for (int what = 0; what <= 11; what++) {
            if (what != 10) {
                add("count" + what, x.count(what));
            }
        }
    }

    private void rooms() {
        for (int q = 0; q < 6; q++) {
            add("room" + q, x.roomOf(q));
        }
    }

    private void queues() {
        for (int q = 0; q < 6; q++) {
            int size = x.queue(q, -1);
            add("queue" + q, size);
            for (int i = 0; i < size; i++) {
                add("", x.queue(q, i));
            }
        }
    }

    private void memory() {
        for (int c = 0; c < 32; c++) {
            add("cell" + c, x.cell(c));
        }
        for (int r = 0; r < 8; r++) {
            add("register" + r, x.register(r));
        }
    }

    /** Of each deed its first sign alone: with all signs, an object would be asked more than its 512 calls. */
    private void code() {
        for (int side = 0; side < 2; side++) {
            for (int i = 0; i <= x.count(2); i++) {
                int deeds = x.deeds(side, i);
                add("deeds" + side + "/" + i, deeds);
                for (int k = 0; k < deeds; k++) {
                    add("", x.text(side, i, k, 0), x.did(side, i, k));
                }
            }
        }
    }

    private void goingOn() {
        for (int i = 0; i < 15 && x.cycles(1) == 1; i++) {
            add("goes on", x.count(5), x.side(0, 6), x.side(1, 6), x.count(11));
        }
        add("to the end", x.cycles(50), x.count(0), x.count(1), x.count(8));
        memory();
    }

    private void add(String name, int... answers) {
        all.append(name);
        for (int a : answers) {
            all.append(' ').append(a);
        }
        all.append('\n');
    }
}
