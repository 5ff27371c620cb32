import java.util.List;

/** The bounds that the document's first term names: the tape, tokens, lines, names, faults and their order. */
public final class TextBoundsTest {
    private static final int NONE = TwoProcessors.NONE;
    private static final Check CHECK = new Check();
    private static final List<String> QUEUES = List.of("loads", "stores", "data", "copies", "told", "asked");
    private static final List<String> SETTING_WORDS = List.of("late", "room", "cell", "reg", "keep");
    private static final List<String> INSTRUCTION_WORDS = List.of("set", "add", "sub", "mul", "load", "store", "jump", "if", "end");

    public static void main(String[] args) {
        tapeOf600();
        everyByte();
        tokensAsLongAsTheyGo();
        digits();
        letters();
        lettersOfRegisters();
        lines();
        linesCutOff();
        numbersThatCanBe();
        quotedWords();
        nearlyQuotedWords();
        namesStandForInstructions();
        laterOnesStrike();
        atFirst();
        instructions24();
        faultOneComesFirst();
        faultsByPlace();
        namesTwice();
        namesNobodyHas();
        textsStandAlone();
        CHECK.finish();
    }

    private static void fault(String text, int fault, int place) {
        TwoProcessors x = new TwoProcessors();
        int size = Check.take(x, text);
        CHECK.due("fault(0) of '" + text + "'", x.fault(0), fault);
        CHECK.due("fault(1) of '" + text + "'", x.fault(1), place);
        CHECK.due("program() of '" + text + "' is NONE", size == NONE, fault != 0);
        CHECK.due("count(10) behind '" + text + "'", x.count(10), 0);
    }

    private static void fine(String text) {
        fault(text, 0, NONE);
    }

    private static void tapeOf600() {
        CHECK.about("'THE TAPE has at most 600 bytes'");
        String whole = "late 1;".repeat(84) + "cell 31 999;";
        CHECK.due("bytes", whole.length(), 600);
        TwoProcessors x = new TwoProcessors();
        Check.write(x, whole);
        CHECK.due("feed, no room", x.feed(0, 0, 0, 0, 0), NONE);
        CHECK.due("count(10)", x.count(10), 600);
        CHECK.due("program()", x.program(), 0);
        CHECK.due("cell(31), told by the last bytes", x.cell(31), 999);
        fault(whole.substring(0, 599), 1, 599);
        fine(" ".repeat(600));
        fault(" ".repeat(599) + "#", 1, 599);
        fault("end" + " ".repeat(597), 1, 600);
        fault("end;" + " ".repeat(593) + "end", 1, 600);
        fine("\n".repeat(596) + "end;");
        fault("a".repeat(600), 1, 0);
        fault("0".repeat(600), 1, 0);
        fault(";".repeat(600), 1, 0);
        fault("<".repeat(600), 1, 0);
        fault("end;".repeat(150), 4, 96);
        fault("aa:jump aa;".repeat(54) + "end;e", 1, 598);
        fault("late 1;".repeat(84) + "jump abcdef;", 5, 593);
        fault("late 1;".repeat(84) + "cell 31 999", 1, 599);
    }

    /** Each byte between the two; blanks are fine, and all others give a fault and a place, by what they are. */
    private static void everyByte(String ahead, String behind, int[] letter, int[] digit, int[] semicolon, int[] other) {
        for (int b = 0; b < 256; b++) {
            String text = ahead + (char) b + behind;
            if (b == 10 || b == 32) {
                fine(text);
            } else {
                int[] due = b >= 'a' && b <= 'z' ? letter : b >= '0' && b <= '9' ? digit : b == ';' ? semicolon : other;
                fault(text, due[0], due[1]);
            }
        }
    }

    private static void everyByte() {
        CHECK.about("'TOKENS .. blanks (10, 32) between', every byte behind a word");
        int[] at4 = {1, 4};
        everyByte("end", ";", at4, new int[] {1, 3}, at4, new int[] {1, 3});
        CHECK.about("'NUMBERS, 1 to 3 digits', every byte behind a digit");
        int[] at6 = {1, 6};
        // 10 .. 19 are NUMBERS, but LATE can't be so.
        everyByte("late 1", ";", at6, new int[] {2, 5}, new int[] {1, 7}, at6);
        CHECK.about("'the first byte or token with which no text goes on', every byte at the beginning, and at the end");
        int[] at0 = {1, 0};
        everyByte("", "end;", at4, at0, at0, at0);
        everyByte("end;", "", at4, at4, at4, at4);
    }

    private static void tokensAsLongAsTheyGo() {
        CHECK.about("'TOKENS, as long as they go'");
        fine("set a1;set b2;set c3;");
        fine("late9;cell1 2;room loads1;reg a5;load a b1;");
        fault("cell 12;", 1, 7);
        fault("cell 1 2 3;", 1, 9);
        fault("late 1 1;", 1, 7);
        fault("adda b c;", 1, 5);
        fault("add ab c;", 1, 4);
        fault("add a b cd;", 1, 8);
        fault("keepa;", 1, 5);
        fault("keep aa;", 1, 5);
        fault("loads a b 1;", 1, 0);
        fault("ifa<b on;on:end;", 1, 3);
        fault("on:if a<bon;", 1, 8);
        fine("on:if a<b on;");
        fine("on : if a < b on ;");
        fine("on\n:\nif\na\n<\nb\non\n;\n");
        fault("on:if a< =b on;", 1, 9);
        fault("on:if a<=b on;", 1, 8);
        fault("on::end;", 1, 3);
        fault("o n:end;", 1, 0);
        fault("on on:end;", 1, 3);
        fault("en d;", 1, 3);
        fault("room lo ads 3;", 1, 5);
    }

    private static void digits() {
        CHECK.about("'NUMBERS, 1 to 3 digits'; 'a longer row of digits .. is no token'");
        for (String number : List.of("0", "00", "000", "7", "07", "007", "10", "99", "099", "100", "999")) {
            TwoProcessors x = Check.of("set a " + number + ";cell 5 " + number + ";reg b " + number + ";");
            int due = Integer.parseInt(number);
            CHECK.due("cell(5), told as " + number, x.cell(5), due);
            CHECK.due("register(1), told as " + number, x.register(1), due);
            CHECK.due("the deed's text", Check.deed(x, 1, 0, 0), "set a " + due);
        }
        for (String row : List.of("0000", "0001", "1000", "9999", "00000", "2147483648", "4294967297", "99999999999999999999")) {
            fault("set a " + row + ";", 1, 6);
            fault("late " + row + ";", 1, 5);
            fault("cell " + row + " 1;", 1, 5);
            fault(row, 1, 0);
        }
    }

    private static void letters() {
        CHECK.about("'NAME: a word of 2 to 8 letters'; 'a word of more than 8 letters is no token'");
        String row = "zyxwvutsrqponm";
        for (int size = 2; size <= row.length(); size++) {
            String name = row.substring(0, size);
            boolean can = size <= 8;
            fault(name + ":end;", can ? 0 : 1, can ? NONE : 0);
            fault(name + ":jump " + name + ";", can ? 0 : 1, can ? NONE : 0);
            fault("jump " + name + ";", can ? 5 : 1, 5);
            fault("if a<b " + name + ";", can ? 5 : 1, 7);
            fault("end;" + name, 1, can ? 4 + size : 4);
            fault("set " + name, 1, 4);
            fault("room " + name, 1, 5);
        }
        TwoProcessors x = Check.of("abcdefgh:end;abcdefgi:end;bbcdefgh:end;jump abcdefgi;jump abcdefgh;jump bbcdefgh;");
        CHECK.due("names that differ in one letter", Check.code(x, 0), "end|end|end|jump 1|jump 0|jump 2|end");
        x = Check.of("ab:end;abc:end;abcd:end;jump abc;jump abcd;jump ab;");
        CHECK.due("names that begin alike", Check.code(x, 1), "end|end|end|jump 1|jump 2|jump 0|end");
    }

    private static void lettersOfRegisters() {
        CHECK.about("'R: a word of one letter, a .. h'; 'A word of one letter i .. z can't stand anywhere'");
        for (char c = 'a'; c <= 'z'; c++) {
            boolean can = c <= 'h';
            fault("keep " + c + ";", can ? 0 : 1, can ? NONE : 5);
            fault("reg " + c + " 1;", can ? 0 : 1, can ? NONE : 4);
            fault("set " + c + " 1;", can ? 0 : 1, can ? NONE : 4);
            fault("add " + c + " a a;", can ? 0 : 1, can ? NONE : 4);
            fault("sub a " + c + " a;", can ? 0 : 1, can ? NONE : 6);
            fault("mul a a " + c + ";", can ? 0 : 1, can ? NONE : 8);
            fault("load " + c + " a 1;", can ? 0 : 1, can ? NONE : 5);
            fault("store a " + c + " 1;", can ? 0 : 1, can ? NONE : 8);
            fault("on:if " + c + "<a on;", can ? 0 : 1, can ? NONE : 6);
            fault("on:if a>" + c + " on;", can ? 0 : 1, can ? NONE : 8);
            fault("jump " + c + ";", 1, 5);
            fault(c + ":end;", 1, 0);
            fault("room " + c + " 1;", 1, 5);
            fault("late " + c + ";", 1, 5);
            fault("" + c, 1, 0);
        }
        TwoProcessors x = Check.of("reg a 10;reg b 11;reg c 12;reg d 13;reg e 14;reg f 15;reg g 16;reg h 17;");
        for (int r = 0; r < 8; r++) {
            CHECK.due("register(" + r + ")", x.register(r), 10 + r);
        }
    }

    // Of a line's places: N a NUMBER, Q a QUEUE, R a register, C what compares, A a NAME; all else is itself.
    private static final String[] LINES = {"late N", "room Q N", "cell N N", "reg R N", "keep R", "set R N", "add R R R",
        "sub R R R", "mul R R R", "load R R N", "store R R N", "jump A", "if R C R A", "end"};
    private static final String[] TRIED = {"late", "keep", "set", "if", "end", "data", "loads", "b", "h", "i", "z", "1", "6", "1000",
        "0000", ";", ":", "<", "=", ">", "there", "here", "ab", "abcdefgh", "abcdefghi", "#", "A", "\t"};

    private static boolean fits(String place, String token) {
        switch (place) {
            case "N":
                return token.equals("1") || token.equals("6");
            case "Q":
                return token.equals("data") || token.equals("loads");
            case "R":
                return token.equals("b") || token.equals("h");
            case "C":
                return token.equals("<") || token.equals("=") || token.equals(">");
            case "A":
                return List.of("there", "here", "ab", "abcdefgh").contains(token);
            default:
                return place.equals(token);
        }
    }

    private static String sample(String place) {
        switch (place) {
            case "N":
                return "1";
            case "Q":
                return "data";
            case "R":
                return "b";
            case "C":
                return "<";
            case "A":
                return "there";
            default:
                return place;
        }
    }

    private static boolean beginsALine(String token) {
        return SETTING_WORDS.contains(token) || INSTRUCTION_WORDS.contains(token) || fits("A", token);
    }

    private static void lines() {
        CHECK.about("'LINE: ..', each place of each line, with each kind of token");
        for (String line : LINES) {
            oneLine("there:end;ab:end;abcdefgh:end;here:end;", (line + " ;").split(" "));
            if (INSTRUCTION_WORDS.contains(line.split(" ")[0])) {
                oneLine("there:end;ab:end;abcdefgh:end;here:end;again:", (line + " ;").split(" "));
            } else {
                fault("again:" + line.split(" ")[0], 1, 6);
            }
        }
        fault("again", 1, 5);
        fault("again;", 1, 5);
        fault("again:", 1, 6);
        fault("again:;", 1, 6);
        fault("again:more:end;", 1, 6);
    }

    private static void oneLine(String ahead, String[] places) {
        for (int i = 0; i < places.length; i++) {
            for (String token : TRIED) {
                boolean fits = fits(places[i], token);
                if (i == 0 && (fits || beginsALine(token))) {
                    continue;
                }
                StringBuilder text = new StringBuilder(ahead);
                int place = 0;
                for (int k = 0; k < places.length; k++) {
                    if (k == i) {
                        place = text.length();
                    }
                    text.append(k == i ? token : sample(places[k])).append(' ');
                }
                fault(text.toString(), fits ? 0 : 1, fits ? NONE : place);
            }
        }
    }

    private static void linesCutOff() {
        CHECK.about("'places (.. the end's)', each line cut off behind each of its tokens");
        for (String line : LINES) {
            StringBuilder text = new StringBuilder("there:end; ");
            for (String place : line.split(" ")) {
                text.append(sample(place));
                fault(text.toString(), 1, text.length());
                fault(text + " \n ", 1, text.length() + 3);
                text.append(' ');
            }
            fine(text + ";");
            fine(text + "; \n ");
        }
        fine("");
        fine(" ");
        fine("\n");
        fine("end;");
        fine("end; end;");
    }

    private static void numbers(String ahead, int least, int most, String behind) {
        for (int n : new int[] {0, 1, 2, 5, 6, 7, 9, 10, 30, 31, 32, 33, 99, 100, 998, 999}) {
            boolean can = n >= least && n <= most;
            fault(ahead + n + behind, can ? 0 : 2, can ? NONE : ahead.length());
        }
        fault(ahead + "1000" + behind, 1, ahead.length());
        fault(ahead + "-1" + behind, 1, ahead.length());
        boolean zero = least == 0;
        fault(ahead + "000" + behind, zero ? 0 : 2, zero ? NONE : ahead.length());
        fine(ahead + "005" + behind);
    }

    private static void numbersThatCanBe() {
        CHECK.about("'2 a NUMBER that can't be (as above; of load, store 0 .. 31)'");
        numbers("late ", 1, 9, ";");
        for (String queue : QUEUES) {
            numbers("room " + queue + " ", 1, 6, ";");
        }
        numbers("cell ", 0, 31, " 5;");
        numbers("cell 5 ", 0, 999, ";");
        numbers("reg a ", 0, 999, ";");
        numbers("set a ", 0, 999, ";");
        numbers("load a b ", 0, 31, ";");
        numbers("store a b ", 0, 31, ";");
        for (int n = 1; n <= 9; n++) {
            CHECK.due("count(4)", Check.of("late " + n + ";").count(4), n);
        }
        for (int q = 0; q < 6; q++) {
            for (int n = 1; n <= 6; n++) {
                TwoProcessors x = Check.of("room " + QUEUES.get(q) + " " + n + ";");
                for (int other = 0; other < 6; other++) {
                    CHECK.due(QUEUES.get(q) + " " + n + ": roomOf(" + other + ")", x.roomOf(other), other == q ? n : 4);
                }
            }
        }
        fault("cell 32 5;cell 5 5;", 2, 5);
        fault("cell 5 5;cell 99 5;", 2, 14);
    }

    private static void quotedWords() {
        CHECK.about("'NAME: a word .. that is none of those in quotes'");
        for (String word : SETTING_WORDS) {
            fault(word + ":end;", 1, word.length());
        }
        for (String word : INSTRUCTION_WORDS) {
            fault(word + ":end;", 1, word.length());
        }
        for (String word : QUEUES) {
            fault(word + ":end;", 1, 0);
            fault(word, 1, 0);
        }
        for (List<String> words : List.of(SETTING_WORDS, INSTRUCTION_WORDS, QUEUES)) {
            for (String word : words) {
                fault("jump " + word + ";", 1, 5);
                fault("if a=b " + word + ";", 1, 7);
                fault("end;" + "set " + word + " 1;", 1, 8);
                boolean queue = words == QUEUES;
                fault("room " + word + " 1;", queue ? 0 : 1, queue ? NONE : 5);
            }
        }
    }

    private static void nearlyQuotedWords() {
        CHECK.about("words that are nearly those in quotes are NAMEs");
        for (String name : List.of("la", "lat", "lates", "etal", "rooms", "roo", "cells", "re", "regs", "kee", "keeps", "se", "sets",
            "ad", "adds", "subs", "muls", "loa", "loadss", "stor", "storess", "jum", "jumps", "iff", "fi", "en", "ends", "dat",
            "datas", "copie", "copiess", "tol", "tolds", "aske", "askeds", "jumpjump", "lateroom")) {
            TwoProcessors x = Check.of("end;" + name + ":jump " + name + ";");
            CHECK.due("code with " + name, Check.code(x, 0), "end|jump 1|end");
            fault("room " + name + " 1;", 1, 5);
        }
        // The words of deeds stand in quotes only where the document tells what a deed's text is.
        for (String name : List.of("send", "fetch", "issue", "get", "put", "place", "give", "tell", "heed", "ask", "judge")) {
            TwoProcessors x = Check.of("end;" + name + ":jump " + name + ";");
            CHECK.due("code with " + name, Check.code(x, 1), "end|jump 1|end");
        }
    }

    private static void namesStandForInstructions() {
        CHECK.about("'it stands for the INSTRUCTION that it stands ahead of'; 'numbered from 0 on'");
        String settings = "late 2;room data 3;";
        TwoProcessors x = Check.of("jump last;" + settings + "aa:" + "end;".repeat(21) + settings + "bb:jump aa;" + settings
            + "last:jump bb;" + settings);
        CHECK.due("jump to the last", Check.deed(x, 0, 0, 0), "jump 23");
        CHECK.due("jump back", Check.deed(x, 1, 22, 0), "jump 1");
        CHECK.due("jump back", Check.deed(x, 1, 23, 0), "jump 22");
        CHECK.due("the place behind the last one", Check.deed(x, 0, 24, 0), "end");
        CHECK.due("deeds(0, 25)", x.deeds(0, 25), NONE);
        x = Check.of("aa:jump aa;");
        CHECK.due("jump to itself", Check.deed(x, 0, 0, 0), "jump 0");
        x = Check.of("keep a;" + "end;".repeat(22) + "xx:if a<a xx;if b<b xx;");
        CHECK.due("tell", Check.deed(x, 0, 22, 0), "tell a<a 22");
        CHECK.due("heed", Check.deed(x, 1, 22, 0), "heed 22");
        CHECK.due("ask", Check.deed(x, 0, 23, 0), "ask 22");
        CHECK.due("judge", Check.deed(x, 1, 23, 0), "judge b<b 22");
    }

    private static void laterOnesStrike() {
        CHECK.about("'Later ones strike'");
        TwoProcessors x = Check.of("late 1;late 9;end;late 2;");
        CHECK.due("count(4)", x.count(4), 2);
        for (int q = 0; q < 6; q++) {
            String room = "room " + QUEUES.get(q) + " ";
            x = Check.of(room + "6;" + room + "1;end;" + room + "2;");
            CHECK.due("roomOf(" + q + ")", x.roomOf(q), 2);
        }
        x = Check.of("cell 0 999;cell 031 1;end;cell 0 0;cell 31 2;reg a 999;reg h 1;reg a 0;reg h 2;");
        CHECK.due("cell(0)", x.cell(0), 0);
        CHECK.due("cell(31)", x.cell(31), 2);
        CHECK.due("register(0)", x.register(0), 0);
        CHECK.due("register(7)", x.register(7), 2);
        fault("late 3;late 0;late 3;", 2, 12);
    }

    private static void atFirst() {
        CHECK.about("'(0 at first)'; 'late is 3, each ROOM 4 at first'; 'A PROGRAM's text: {LINE ';'}', of none, too");
        TwoProcessors x = Check.of("late 9;room loads 1;room stores 1;room data 1;room copies 1;room told 1;room asked 1;keep a;keep h;"
            + "cell 0 5;cell 31 5;reg a 5;reg h 5;end;end;");
        CHECK.due("program() of nothing", x.program(), 0);
        CHECK.due("count(2)", x.count(2), 0);
        CHECK.due("count(3)", x.count(3), 0);
        CHECK.due("count(4)", x.count(4), 3);
        for (int q = 0; q < 6; q++) {
            CHECK.due("roomOf(" + q + ")", x.roomOf(q), 4);
        }
        for (int c = 0; c < 32; c++) {
            CHECK.due("cell(" + c + ")", x.cell(c), 0);
        }
        for (int r = 0; r < 8; r++) {
            CHECK.due("register(" + r + ")", x.register(r), 0);
        }
        CHECK.due("code", Check.code(x, 0) + Check.code(x, 1), "endend");
    }

    private static void instructions24() {
        CHECK.about("'INSTRUCTIONS, at most 24'; '4 a 25th INSTRUCTION, at its word'");
        String[] all = {"set a 1;", "add a b c;", "sub a b c;", "mul a b c;", "load a b 1;", "store a b 1;", "jump aa;", "if a<b aa;", "end;"};
        for (String one : all) {
            String ahead = "aa:" + one.repeat(23);
            TwoProcessors x = new TwoProcessors();
            CHECK.due("24 of " + one, Check.take(x, ahead + one), 24);
            CHECK.due("count(2)", x.count(2), 24);
            fault(ahead + "end;" + one, 4, ahead.length() + 4);
            fault(ahead + "end;bb:" + one, 4, ahead.length() + 7);
            fault(ahead + "end;late 1; bb : " + one + "end;", 4, ahead.length() + 17);
        }
        CHECK.due("lines that are none", Check.take(new TwoProcessors(), "end;".repeat(24) + "late 1;keep a;reg a 1;".repeat(20)), 24);
        fault("end;".repeat(26), 4, 96);
        fault("end;".repeat(24) + "late 1;".repeat(10) + "end;", 4, 166);
    }

    private static void faultOneComesFirst() {
        CHECK.about("'1 the first byte or token with which no text goes on .. If there is none, ..'");
        fault("late 0;#", 1, 7);
        fault("late 0", 1, 6);
        fault("cell 32 1;end", 1, 13);
        fault("aa:end;aa:end;;", 1, 14);
        fault("end;".repeat(25) + "end", 1, 103);
        fault("end;".repeat(25) + "set i 1;", 1, 104);
        fault("jump off;jump off", 1, 17);
        fault("jump off;jump of f;", 1, 17);
        fault("late 0;late 1000;", 1, 12);
        fault("late 0;abcdefghi:end;", 1, 7);
        fault("# # #", 1, 0);
        fault("end;#;set i 1;", 1, 4);
    }

    private static void faultsByPlace() {
        CHECK.about("'the first by place': each two faults, in both orders");
        String full = "end;".repeat(24);
        fault("late 0;aa:end;aa:end;", 2, 5);
        fault("aa:end;aa:end;late 0;", 3, 7);
        fault("late 0;" + full + "end;", 2, 5);
        fault(full + "end;late 0;", 4, 96);
        fault(full + "load a a 32;", 4, 96);
        fault("late 0;jump off;", 2, 5);
        fault("jump off;late 0;", 5, 5);
        fault("aa:end;aa:end;" + full, 3, 7);
        fault("aa:end;" + "end;".repeat(24) + "aa:end;", 4, 99);
        fault("aa:end;" + "end;".repeat(23) + "aa:end;", 3, 99);
        fault("aa:end;aa:jump off;", 3, 7);
        fault("aa:jump off;aa:end;", 5, 8);
        fault(full + "jump off;", 4, 96);
        fault("jump off;" + full, 5, 5);
        fault("end;".repeat(23) + "jump off;end;", 5, 97);
        fault("room data 0;room data 9;", 2, 10);
        fault("cell 32 5;late 0;", 2, 5);
        fault("load a b 99;if a<b off;", 2, 9);
    }

    private static void namesTwice() {
        CHECK.about("'3 a NAME that stands ahead of an INSTRUCTION already, where it stands ahead of one again'");
        fault("aa:end;aa:end;", 3, 7);
        fault("aa:end; aa :end;aa:end;", 3, 8);
        fault("aa:end;bb:end;bb:end;aa:end;", 3, 14);
        fault("aa:end;ab:end;ba:end;aaa:end;", 0, NONE);
        fault("jump aa;jump aa;aa:end;", 0, NONE);
        fault("aa:jump aa;jump aa;", 0, NONE);
        fault("aa:end;" + "end;".repeat(22) + "aa:end;", 3, 95);
        fault("end;".repeat(24) + "aa:end;aa:end;", 4, 99);
    }

    private static void namesNobodyHas() {
        CHECK.about("'5 a NAME behind jump, if that no INSTRUCTION has'");
        fault("jump aa;", 5, 5);
        fault("if a>b aa;", 5, 7);
        fault("aa:jump ab;", 5, 8);
        fault("abc:jump ab;", 5, 9);
        fault("ab:jump abc;", 5, 8);
        fault("aa:jump aa;jump bb;if a<b cc;", 5, 16);
        fault("aa:jump aa;if a<b cc;jump bb;", 5, 18);
        fine("jump aa;" + "end;".repeat(22) + "aa:end;");
        // A 25th INSTRUCTION is one, though one too many: it has the NAME.
        fault("jump aa;" + "end;".repeat(23) + "aa:end;", 4, 103);
        fault("jump aa;" + "end;".repeat(146) + "aa:end;", 4, 100);
        fault("jump ab;" + "end;".repeat(146) + "aa:end;", 5, 5);
    }

    private static void textsStandAlone() {
        CHECK.about("a text knows nothing of the one ahead of it");
        TwoProcessors x = new TwoProcessors();
        CHECK.due("a NAME", Check.take(x, "late 1;aa:end;bb:jump aa;"), 2);
        CHECK.due("the NAME of the text ahead", Check.take(x, "end;jump aa;"), NONE);
        CHECK.due("fault(0)", x.fault(0), 5);
        CHECK.due("fault(1)", x.fault(1), 9);
        CHECK.due("a NAME", Check.take(x, "late 1;aa:end;bb:jump aa;"), 2);
        CHECK.due("as many, without NAMEs", Check.take(x, "late 1;end;set a 1;"), 2);
        CHECK.due("its code", Check.code(x, 1), "end|set a 1|end");
        CHECK.due("24", Check.take(x, "zz:" + "jump zz;".repeat(24)), 24);
        CHECK.due("a fault", Check.take(x, "late 9;keep a;reg b 9;cell 9 9;room told 1;set a 1;#"), NONE);
        CHECK.due("1", Check.take(x, "set a 2;"), 1);
        CHECK.due("its code", Check.code(x, 1), "set a 2|end");
        CHECK.due("AIMS, LATE, ROOM", x.count(3) * 100 + x.count(4) * 10 + x.roomOf(4), 34);
        CHECK.due("REGISTERS, CELLS", x.register(1) + x.cell(9), 0);
    }
}
