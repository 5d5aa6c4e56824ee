/** Compares answers with those that are due, for all tests of the project. */
final class Due {
    private final String test;
    private int asked;
    private int wrong;

    Due(String test) {
        this.test = test;
    }

    void is(String call, long got, long want) {
        asked++;
        if (got != want) {
            wrong++;
            if (wrong <= 50) {
                System.out.println(test + ": " + call + " answered " + got + ", due is " + want);
            }
        }
    }

    void is(String call, boolean got, boolean want) {
        is(call, got ? 1 : 0, want ? 1 : 0);
    }

    void finish() {
        System.out.println(test + ": " + asked + " answers, " + wrong + " not as due");
        if (wrong != 0 || asked == 0) {
            System.exit(1);
        }
    }

    static void tape(ThreeTiers x, String text) {
        for (int i = 0; i < text.length(); i += 20) {
            x.feed(four(text, i), four(text, i + 4), four(text, i + 8), four(text, i + 12), four(text, i + 16));
        }
        x.end(text.length());
    }

    static int four(String text, int at) {
        int number = 0;
        for (int i = at; i < at + 4; i++) {
            number = number << 8 | (i < text.length() ? text.charAt(i) & 255 : 0);
        }
        return number;
    }

    static int tell(ThreeTiers x, String text) {
        tape(x, text);
        return x.cake();
    }

    static ThreeTiers cake(String text) {
        ThreeTiers x = new ThreeTiers();
        if (tell(x, text) < 0) {
            throw new IllegalStateException("fault " + x.fault(0) + " at " + x.fault(1) + " in " + text);
        }
        return x;
    }

    /** All that can be seen of the table, so that two states can be compared. */
    static String table(ThreeTiers x) {
        StringBuilder all = new StringBuilder();
        for (int what = 2; what <= 5; what++) {
            all.append(x.about(what)).append(' ');
        }
        for (int piece = 0; piece < x.about(2); piece++) {
            for (int what = 0; what <= 8; what++) {
                all.append(x.piece(piece, what)).append(',');
            }
        }
        for (int guest = 0; guest < x.about(1); guest++) {
            all.append(x.guest(guest, 3)).append(';');
        }
        return all.toString();
    }
}
