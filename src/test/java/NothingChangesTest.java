import java.util.LinkedHashMap;
import java.util.Map;
import java.util.function.Consumer;
import java.util.function.Supplier;

/** Where the document says that nothing changes, or all else stays, and of what is only asked: what shows afterwards. */
public final class NothingChangesTest {
    private static final int NONE = TwoProcessors.NONE;
    private static final int LOW = Integer.MIN_VALUE;
    private static final int HIGH = Integer.MAX_VALUE;
    private static final Check CHECK = new Check();

    /** Loads, stores, data, copies under way in 3 to 6; a fetch from 7 to 11; asked in 8; done in 15. */
    private static final String MANY = "late 4;room loads 2;cell 3 9;reg b 5;load c a 3;store b a 1;add d a c;load a a 1;"
        + "if d>b on;set h 4;on:if a=a to;to:store d a 2;";
    private static final String STUCK = "room copies 1;load f a 0;add g a a;";

    private static final Map<String, Supplier<TwoProcessors>> STATES = new LinkedHashMap<>();

    public static void main(String[] args) {
        states();
        refusedFeed();
        refusedEnd();
        refusedProgram();
        refusedCycles();
        refusedRoom();
        refusedImages();
        asked();
        imagesHaveAll();
        imagesStandAlone();
        imagesBounds();
        CHECK.finish();
    }

    private static void states() {
        STATES.put("new", TwoProcessors::new);
        for (int cycles : new int[] {0, 1, 3, 6, 8, 10, 14}) {
            STATES.put("behind " + cycles, () -> underWay(MANY, cycles));
        }
        STATES.put("DONE", () -> underWay(MANY, 50));
        STATES.put("STUCK", () -> underWay(STUCK, 50));
        STATES.put("999", () -> {
            TwoProcessors x = Check.of("up:add b b c;reg c 3;jump up;");
            for (int i = 0; i < 20; i++) {
                x.cycles(50);
            }
            return x;
        });
    }

    /** With a fault of a later text, bytes on the tape, and rooms other than told. */
    private static TwoProcessors underWay(String text, int cycles) {
        TwoProcessors x = Check.of(text);
        Check.take(x, "late 0;");
        Check.write(x, "late 5;room told 2;set a 3;load b a 1;");
        x.room(1, 2);
        x.room(4, 3);
        for (int i = 0; i < cycles; i++) {
            x.cycles(1);
        }
        return x;
    }

    /** What is called must change nothing, in any of the states. */
    private static void same(String name, Consumer<TwoProcessors> called) {
        for (Map.Entry<String, Supplier<TwoProcessors>> state : STATES.entrySet()) {
            TwoProcessors x = state.getValue().get();
            called.accept(x);
            CHECK.due(state.getKey() + ", then " + name, Seen.whole(x), Seen.whole(state.getValue().get()));
        }
    }

    private static void refusedFeed() {
        CHECK.about("'feed: NONE, and nothing comes'");
        for (int size : new int[] {581, 590, 600}) {
            String tape = "late 5;set a 3;" + " ".repeat(size - 19) + "end;";
            for (Supplier<TwoProcessors> state : STATES.values()) {
                TwoProcessors x = state.get();
                TwoProcessors y = state.get();
                Check.write(x, tape);
                Check.write(y, tape);
                CHECK.due("feed", x.feed(-1, -1, -1, -1, -1), NONE);
                CHECK.due("behind a refused feed", Seen.whole(x), Seen.whole(y));
            }
        }
    }

    private static void refusedEnd() {
        CHECK.about("'end: NONE if it has not so many, or n is below 0'");
        for (int n : new int[] {-1, LOW, 39, 600, 601, HIGH}) {
            same("end(" + n + ")", x -> CHECK.due("end(" + n + ")", x.end(n), NONE));
        }
        same("end of all", x -> CHECK.due("end", x.end(x.count(10)), x.count(10)));
    }

    private static void refusedProgram() {
        CHECK.about("'program: NONE: a FAULT (all else stays)'");
        String[] texts = {"#", "end", "late 2;room loads 0;", "aa:end;aa:end;", "set b 9;keep b;".repeat(2) + "end;".repeat(23),
            "late 1;room loads 1;cell 0 9;reg a 9;keep h;set b 9;jump off;", "load a a 32;"};
        int[] faults = {1, 1, 2, 3, 4, 5, 2};
        for (int i = 0; i < texts.length; i++) {
            for (Map.Entry<String, Supplier<TwoProcessors>> state : STATES.entrySet()) {
                refused(state.getKey(), state.getValue(), texts[i], faults[i]);
            }
        }
    }

    private static void refused(String name, Supplier<TwoProcessors> state, String text, int fault) {
        TwoProcessors x = state.get();
        CHECK.due("program() of " + text, Check.take(x, text), NONE);
        CHECK.due("fault(0)", x.fault(0), fault);
        CHECK.due("count(10)", x.count(10), 0);
        TwoProcessors y = state.get();
        CHECK.due(name + ", then " + text, Seen.nowOfMachine(x), Seen.nowOfMachine(y));
        x.cycles(3);
        y.cycles(3);
        CHECK.due(name + ", then " + text + ", and on", Seen.nowOfMachine(x), Seen.nowOfMachine(y));
        x = state.get();
        x.image(1);
        Check.take(x, text);
        x.begin();
        y = state.get();
        y.begin();
        CHECK.due(name + ", then " + text + ", and from the beginning", Seen.nowOfMachine(x), Seen.nowOfMachine(y));
        CHECK.due("the image is there", x.again(1), true);
        CHECK.due("as it was", Seen.now(x), Seen.now(state.get()));
        x = state.get();
        Check.take(x, text);
        y = state.get();
        CHECK.due("the runner's code stays", Check.code(x, 0), Check.code(y, 0));
        CHECK.due("the worker's code stays", Check.code(x, 1), Check.code(y, 1));
    }

    private static void refusedCycles() {
        CHECK.about("'cycles: NONE: another n'");
        for (int n : new int[] {0, -1, 51, LOW, HIGH}) {
            same("cycles(" + n + ")", x -> CHECK.due("cycles(" + n + ")", x.cycles(n), NONE));
        }
        for (String state : new String[] {"DONE", "STUCK", "999"}) {
            TwoProcessors x = STATES.get(state).get();
            CHECK.due("cycles(50)", x.cycles(50), 0);
            CHECK.due(state + ": it goes on no more", Seen.whole(x), Seen.whole(STATES.get(state).get()));
        }
    }

    private static void refusedRoom() {
        CHECK.about("'room: False, and nothing changes: no such QUEUE, ROOM'");
        int[][] refused = {{-1, 3}, {6, 3}, {LOW, 3}, {HIGH, 3}, {0, 0}, {0, 7}, {5, 0}, {5, 7}, {3, LOW}, {3, HIGH}, {-1, 0}, {6, 7}};
        for (int[] r : refused) {
            same("room(" + r[0] + ", " + r[1] + ")", x -> CHECK.due("room", x.room(r[0], r[1]), false));
        }
    }

    private static void refusedImages() {
        CHECK.about("'image: false for another k'; 'again: false if there is none such'");
        for (int k : new int[] {-1, 3, LOW, HIGH}) {
            same("image(" + k + ")", x -> CHECK.due("image(" + k + ")", x.image(k), false));
        }
        for (int k : new int[] {-1, 0, 1, 2, 3, LOW, HIGH}) {
            same("again(" + k + ")", x -> CHECK.due("again(" + k + ")", x.again(k), false));
        }
        for (int k = 0; k < 3; k++) {
            int taken = k;
            same("image(" + taken + ")", x -> CHECK.due("image(" + taken + ")", x.image(taken), true));
        }
    }

    private static void asked() {
        CHECK.about("what is only asked changes nothing");
        int[] odd = {LOW, -2, -1, 0, 1, 2, 3, 5, 6, 7, 8, 10, 12, 17, 31, 32, 60, 61, 400, 401, HIGH};
        same("fault", x -> each(odd, x::fault));
        same("count", x -> each(odd, x::count));
        same("side", x -> each(odd, a -> x.side(0, a)));
        same("deeds", x -> each(odd, a -> x.deeds(1, a)));
        same("text", x -> each(odd, a -> x.text(0, 0, 0, a)));
        same("did", x -> each(odd, a -> x.did(0, a, 0)));
        same("queue", x -> each(odd, a -> x.queue(1, a)));
        same("roomOf", x -> each(odd, x::roomOf));
        same("cell", x -> each(odd, x::cell));
        same("register", x -> each(odd, x::register));
        same("alone", x -> each(odd, a -> x.alone(a, 10)));
        same("alone", x -> each(odd, a -> x.alone(400, a)));
        same("ahead", x -> each(odd, a -> x.ahead(a, 5)));
        same("ahead", x -> each(odd, a -> x.ahead(60, a)));
        same("time", x -> each(odd, a -> x.time()));
        same("late", x -> each(odd, x::late));
        same("keeping", x -> each(odd, x::keeping));
        same("best", x -> each(odd, a -> x.best()));
        same("least", x -> each(odd, a -> x.least(a, true)));
        same("least", x -> each(odd, a -> x.least(a, false)));
        same("safe", x -> each(odd, a -> x.safe()));
        same("rounds", x -> each(odd, x::rounds));
        same("changed", x -> each(odd, x::changed));
        same("slipped", x -> each(odd, x::slipped));
    }

    private interface Ask {
        int of(int a);
    }

    private static void each(int[] with, Ask ask) {
        for (int a : with) {
            CHECK.due("asked twice", ask.of(a), ask.of(a));
        }
    }

    private static void imagesHaveAll() {
        CHECK.about("'Image k is all that is (the tape, the FAULT, the PROGRAM, too), as it is now'; 'All that is is as image k has it'");
        for (int k = 0; k < 3; k++) {
            for (Map.Entry<String, Supplier<TwoProcessors>> state : STATES.entrySet()) {
                has(k, state.getKey(), state.getValue());
            }
        }
    }

    private static void has(int k, String name, Supplier<TwoProcessors> state) {
        TwoProcessors x = state.get();
        CHECK.due("image(" + k + ")", x.image(k), true);
        disturb(x);
        CHECK.due("again(" + k + ")", x.again(k), true);
        CHECK.due("as " + name, Seen.whole(x), Seen.whole(state.get()));
        x = state.get();
        x.image(k);
        for (int i = 0; i < 3; i++) {
            disturb(x);
            CHECK.due("again(" + k + ")", x.again(k), true);
            x.cycles(2);
            CHECK.due("again(" + k + "), once more", x.again(k), true);
        }
        CHECK.due("as " + name + ", once more", Seen.whole(x), Seen.whole(state.get()));
        x = state.get();
        x.image(k);
        disturb(x);
        x.again(k);
        TwoProcessors y = state.get();
        CHECK.due("the runner's code as " + name, Check.code(x, 0), Check.code(y, 0));
        CHECK.due("the worker's code as " + name, Check.code(x, 1), Check.code(y, 1));
    }

    /** Changes the tape, the fault, the program, the rooms, and goes on. */
    private static void disturb(TwoProcessors x) {
        x.room(0, 6);
        x.room(5, 1);
        x.cycles(7);
        Check.take(x, "late 9;cell 3 1;cell 30 4;reg a 31;reg b 8;keep d;aa:load a a 3;store b a 4;add b a a;if a<b aa;");
        x.cycles(20);
        x.room(2, 1);
        Check.take(x, "end;".repeat(25));
        Check.write(x, "#".repeat(60));
    }

    private static void imagesStandAlone() {
        CHECK.about("an image stays as it was, whatever comes behind, and whatever other images there are");
        int[] nows = {3, 6, 10};
        int[] order = {1, 0, 2, 2, 0, 1};
        for (int last = 0; last < order.length; last++) {
            TwoProcessors x = threeImages();
            for (int i = 0; i <= last; i++) {
                x.cycles(2);
                x.room(3, 1);
                x.end(3);
                CHECK.due("again(" + order[i] + ")", x.again(order[i]), true);
            }
            CHECK.due("image " + order[last], Seen.now(x), Seen.now(underWay(MANY, nows[order[last]])));
        }
        // Taken anew, it is what is then; the others stay.
        for (int k = 0; k < 2; k++) {
            TwoProcessors x = threeImages();
            x.again(2);
            x.image(0);
            x.again(1 - k);
            x.again(k);
            CHECK.due("image " + k + ", image 0 taken anew", Seen.whole(x), Seen.whole(underWay(MANY, k == 0 ? 10 : 6)));
        }
        // From the beginning of the image's program, with its rooms.
        TwoProcessors x = underWay(MANY, 5);
        x.image(2);
        disturb(x);
        x.again(2);
        CHECK.due("roomOf(1), of then", x.roomOf(1), 2);
        x.begin();
        CHECK.due("roomOf(1), as told", x.roomOf(1), 4);
        CHECK.due("roomOf(0), as told", x.roomOf(0), 2);
        CHECK.due("time()", x.time(), 15);
        CHECK.due("cycles(50)", x.cycles(50), 15);
    }

    /** Of 3, 6 and 10. */
    private static TwoProcessors threeImages() {
        TwoProcessors x = underWay(MANY, 3);
        x.image(0);
        x.cycles(3);
        x.image(1);
        x.cycles(4);
        x.image(2);
        return x;
    }

    private static void imagesBounds() {
        CHECK.about("'Image k (0 .. 2)'");
        for (int k = -2; k <= 4; k++) {
            TwoProcessors x = new TwoProcessors();
            boolean can = k >= 0 && k <= 2;
            CHECK.due("again(" + k + "), none yet", x.again(k), false);
            CHECK.due("image(" + k + ")", x.image(k), can);
            for (int other = -2; other <= 4; other++) {
                CHECK.due("again(" + other + ") behind image(" + k + ")", x.again(other), can && other == k);
            }
        }
        // A new object's image: no program, an empty tape.
        TwoProcessors x = new TwoProcessors();
        x.image(0);
        disturb(x);
        x.again(0);
        CHECK.due("as new", Seen.whole(x), Seen.whole(new TwoProcessors()));
    }
}
