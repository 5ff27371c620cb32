/** Counts answers that are not as due, and says calls by texts. */
final class Check {
    private int wrong;
    private int asked;
    private String about = "";

    void about(String what) {
        about = what;
    }

    void due(String call, long got, long want) {
        asked++;
        if (got != want) {
            wrong++;
            System.out.println(about + ": " + call + " answered " + got + ", due is " + want);
        }
    }

    void due(String call, boolean got, boolean want) {
        due(call, got ? 1 : 0, want ? 1 : 0);
    }

    void due(String call, String got, String want) {
        asked++;
        if (!got.equals(want)) {
            wrong++;
            System.out.println(about + ": " + call + " answered '" + got + "', due is '" + want + "'");
        }
    }

    void finish() {
        System.out.println(asked + " answers, " + wrong + " not as due");
        if (wrong != 0) {
            System.exit(1);
        }
    }

    /** The tape has this text alone. */
    static void write(TwoProcessors x, String text) {
        x.end(0);
        int[] fives = fives(text);
        for (int i = 0; i < fives.length; i += 5) {
            x.feed(fives[i], fives[i + 1], fives[i + 2], fives[i + 3], fives[i + 4]);
        }
        x.end(text.length());
    }

    static int[] fives(String text) {
        int rows = (text.length() + 19) / 20;
        int[] all = new int[rows * 5];
        for (int i = 0; i < rows * 20; i++) {
            int b = i < text.length() ? text.charAt(i) & 255 : ' ';
            all[i / 4] |= b << (24 - i % 4 * 8);
        }
        return all;
    }

    static int take(TwoProcessors x, String text) {
        write(x, text);
        return x.program();
    }

    static TwoProcessors of(String text) {
        TwoProcessors x = new TwoProcessors();
        if (take(x, text) == TwoProcessors.NONE) {
            throw new IllegalStateException("fault " + x.fault(0) + " at " + x.fault(1) + " in " + text);
        }
        return x;
    }

    static String deed(TwoProcessors x, int side, int instruction, int k) {
        StringBuilder all = new StringBuilder();
        for (int i = 0; i < 20; i++) {
            int b = x.text(side, instruction, k, i);
            if (b == TwoProcessors.NONE) {
                break;
            }
            all.append((char) b);
        }
        return all.toString();
    }

    /** All deeds of a side, instructions parted by '|', deeds by ','. */
    static String code(TwoProcessors x, int side) {
        StringBuilder all = new StringBuilder();
        int deeds = x.deeds(side, 0);
        for (int i = 0; deeds != TwoProcessors.NONE; i++) {
            if (i > 0) {
                all.append('|');
            }
            for (int k = 0; k < deeds; k++) {
                if (k > 0) {
                    all.append(',');
                }
                all.append(deed(x, side, i, k));
            }
            deeds = x.deeds(side, i + 1);
        }
        return all.toString();
    }
}
