/** Promises 9 to 15: how the knife slips, cuts, plates, what is undone and done again. */
final class ActEdges {
    private static final Due DUE = EdgesTest.DUE;
    private static final int LEAST = Integer.MIN_VALUE;
    private static final int MOST = Integer.MAX_VALUE;

    static void run() {
        slipBounds();
        slipUntold();
        slipFacts();
        slipRefuses();
        cutWays();
        cutBounds();
        cutNewPiece();
        cutOnNoPlate();
        cutBroken();
        cutSeed();
        cutBreaksBelow();
        cutMinute();
        cutRefuses();
        cutAtTwentyFour();
        giveCounts();
        giveRefuses();
        backGives();
        backRefuses();
        exchangeGives();
        exchangeRefuses();
        undoLatest();
        undoNone();
        redoLast();
        redoNone();
        redoTillAnotherAct();
        fortyKept();
        oldestGo();
        areActs();
        refusedIsNoAct();
    }

    private static void slipBounds() {
        DUE.sentence(9, "What comes of slip for a CUT (0 at least, 100 at most)");
        String[] formulas = {"0-1", "0", "1", "99", "100", "101", "9999", "8192*8192*32", "8192*8192*32-1"};
        int[] want = {0, 0, 1, 99, 100, 100, 100, 0, 100};
        for (int i = 0; i < want.length; i++) {
            ThreeTiers x = Due.cake("tier a 2 by 1 high 1;slip " + formulas[i] + ";");
            int due = want[i];
            DUE.unchanged(x, () -> DUE.is("slip", x.slip(0, 0, 1), due));
        }
    }

    private static void slipUntold() {
        DUE.sentence(0, "what comes of slip (0, if it is not told)");
        ThreeTiers x = Due.cake("tier a 8 by 1 high 1;draw 7;");
        DUE.is("slip", x.slip(0, 0, 1), 0);
        for (int i = 0; i < 7; i++) {
            x.cut(i, 0, 1);
        }
        DUE.is("pieces", x.about(2), 8);
        DUE.is("none is broken", x.about(5), 0);
    }

    private static void slipFacts() {
        DUE.sentence(0, "by area, icing, broken (of the PIECE as it was), sweet 0, long (how many CELLS the CUT goes along), minute");
        String[] words = {"area", "icing", "broken*7", "sweet+3", "long", "minute"};
        // 4 by 2, high 3, broken, two cuts of 5 minutes ago; by columns and by rows.
        int[] columns = {24, 10, 7, 3, 2, 10};
        int[] rows = {24, 10, 7, 3, 4, 10};
        for (int i = 0; i < words.length; i++) {
            ThreeTiers x = Due.cake("tier a 8 by 2 high 3;guest g wants 1 sweet 9;slip (minute<6)*100+(minute>9)*(" + words[i] + ");pace 5;");
            x.cut(0, 0, 4);
            x.cut(0, 1, 1);
            DUE.is("worth to one of sweet 9", x.worth(0, 1), 24);
            DUE.is(words[i] + " by columns", x.slip(1, 0, 1), columns[i]);
            DUE.is(words[i] + " by columns, further", x.slip(1, 0, 3), columns[i]);
            DUE.is(words[i] + " by rows", x.slip(1, 1, 1), rows[i]);
        }
    }

    private static void slipRefuses() {
        DUE.sentence(9, "NONE if it can't be");
        ThreeTiers x = Due.cake("tier a 4 by 3 high 1;tier b 1 by 2 high 1;guest g wants 1;slip 50;");
        DUE.all("columns behind", -1, behind -> x.slip(0, 0, behind), -1, 0, 4, 5, LEAST, MOST);
        DUE.all("rows behind", -1, behind -> x.slip(0, 1, behind), -1, 0, 3, 4, LEAST, MOST);
        DUE.all("way", -1, way -> x.slip(0, way, 1), -1, 2, LEAST, MOST);
        DUE.all("piece", -1, piece -> x.slip(piece, 1, 1), -1, 2, 24, LEAST, MOST);
        DUE.is("one column", x.slip(1, 0, 1), -1);
        DUE.is("two rows", x.slip(1, 1, 1), 50);
        x.give(0, 0);
        DUE.is("on a plate", x.slip(0, 0, 1), -1);
        DUE.is("of nothing", new ThreeTiers().slip(0, 0, 1), -1);
        // All numbers are given out, so no CUT can be.
        ThreeTiers full = full();
        DUE.is("with 24", full.slip(3, 0, 1), -1);
        full.undo();
        DUE.is("with 23", full.slip(3, 0, 1), 30);
    }

    /** 24 pieces; the fourth, a whole row, could be cut if there were a number left. */
    static ThreeTiers full() {
        ThreeTiers x = Due.cake("tier a 8 by 4 high 1;slip 30;guest g wants 1;guest h wants 1;");
        for (int row = 0; row < 3; row++) {
            x.cut(row, 1, 1);
        }
        // Rows 0 and 1 into eight, row 2 into seven, row 3 stays.
        for (int row = 0; row < 3; row++) {
            for (int behind = 7; behind > (row < 2 ? 0 : 1); behind--) {
                x.cut(row, 0, behind);
            }
        }
        return x;
    }

    private static void cutWays() {
        DUE.sentence(0, "behind so many of its COLUMNS (way 0), or ROWS (way 1;");
        ThreeTiers x = Due.cake("tier a 5 by 4 high 1;");
        DUE.is("cut", x.cut(0, 0, 2), 1);
        DUE.row("ahead", what -> x.piece(0, what), 0, 0, 0, 2, 4, 8);
        DUE.row("behind", what -> x.piece(1, what), 0, 2, 0, 3, 4, 12);
        DUE.is("cut", x.cut(1, 1, 3), 2);
        DUE.row("ahead", what -> x.piece(1, what), 0, 2, 0, 3, 3, 9);
        DUE.row("behind", what -> x.piece(2, what), 0, 2, 3, 3, 1, 3);
        DUE.is("cut", x.cut(2, 0, 1), 3);
        DUE.row("behind", what -> x.piece(3, what), 0, 3, 3, 2, 1, 2);
    }

    private static void cutBounds() {
        DUE.sentence(0, "1 at least, fewer than it has)");
        for (int behind = -1; behind <= 9; behind++) {
            ThreeTiers x = Due.cake("tier a 5 by 3 high 1;");
            DUE.is("columns behind " + behind, x.cut(0, 0, behind), behind >= 1 && behind < 5 ? 1 : -1);
            x = Due.cake("tier a 5 by 3 high 1;");
            DUE.is("rows behind " + behind, x.cut(0, 1, behind), behind >= 1 && behind < 3 ? 1 : -1);
        }
        ThreeTiers x = Due.cake("tier a 1 by 1 high 1;");
        DUE.is("one cell", x.cut(0, 0, 1), -1);
        DUE.is("one cell", x.cut(0, 1, 1), -1);
    }

    private static void cutNewPiece() {
        DUE.sentence(0, "what lies ahead of it stays the PIECE, what lies behind it is a new one, of the next number (24 at most)");
        ThreeTiers x = full();
        DUE.is("pieces", x.about(2), 24);
        DUE.row("the last", what -> x.piece(23, what), 0, 2, 2, 1, 1, 1);
        DUE.row("the fourth", what -> x.piece(3, what), 0, 0, 3, 8, 1, 8);
        DUE.is("one more", x.cut(3, 0, 1), -1);
        DUE.sentence(10, "A CUT: the new PIECE");
        ThreeTiers y = Due.cake("tier a 8 by 4 high 1;tier b 8 by 1 high 1;");
        for (int i = 2; i < 9; i++) {
            DUE.is("cut " + i, y.cut(i == 2 ? 0 : i - 1, 0, 1), i);
        }
    }

    private static void cutOnNoPlate() {
        DUE.sentence(0, "A CUT of a PIECE that is on no plate");
        ThreeTiers x = Due.cake("tier a 4 by 1 high 1;tier b 4 by 1 high 1;guest g wants 1;");
        x.give(0, 0);
        DUE.is("on a plate", x.cut(0, 0, 1), -1);
        DUE.is("another one", x.cut(1, 0, 1), 2);
        x.back(0);
        DUE.is("taken back", x.cut(0, 0, 1), 3);
        x.give(3, 0);
        DUE.is("the new one on a plate", x.cut(3, 0, 1), -1);
        x.undo();
        DUE.is("undone", x.cut(3, 0, 1), 4);
    }

    private static void areActs() {
        for (int promise = 10; promise <= 13; promise++) {
            DUE.sentence(promise, "(An ACT.)");
            ThreeTiers x = plain();
            for (int i = 0; i < 4; i++) {
                act(x, i);
            }
            String before = Due.table(x);
            int done = promise == 10 ? x.cut(0, 0, 1) : promise == 11 ? x.back(1) + x.give(0, 1) : promise == 12 ? x.back(1) : x.exchange(0, 1);
            DUE.is("done", done > 0, true);
            int acts = promise == 11 ? 2 : 1;
            DUE.is("more acts", x.about(6), 4 + acts);
            for (int i = 0; i < acts; i++) {
                DUE.is("undo()", x.undo(), true);
            }
            DUE.same("the table", Due.table(x), before);
        }
    }

    private static void cutBroken() {
        DUE.sentence(0, "BROKEN if the PIECE was");
        ThreeTiers x = Due.cake("tier a 8 by 1 high 1;slip (minute=0)*100;");
        x.cut(0, 0, 4);
        x.cut(1, 0, 2);
        x.cut(2, 0, 1);
        x.cut(0, 0, 2);
        DUE.row("broken", piece -> x.piece(piece, 7), 0, 1, 1, 1, 0);
        DUE.is("as bits", x.about(5), 14);
    }

    private static void cutSeed() {
        DUE.sentence(0, "the SEED (draw, at first) becomes its 137-fold and 71 more, modulo 1,000");
        int[] draws = {0, 1, 6, 7, 999, 998, 500};
        for (int draw : draws) {
            ThreeTiers x = Due.cake("tier a 8 by 1 high 1;draw " + draw + ";");
            DUE.is("at first", x.about(4), draw);
            int seed = draw;
            for (int i = 0; i < 7; i++) {
                x.cut(i, 0, 1);
                seed = (seed * 137 + 71) % 1000;
                DUE.is("seed " + i + " from " + draw, x.about(4), seed);
            }
        }
        DUE.is("999 goes to 934", seedBehind(999), 934);
        DUE.is("217 goes to 800", seedBehind(217), 800);
        DUE.is("777 goes to 520", seedBehind(777), 520);
    }

    private static int seedBehind(int draw) {
        ThreeTiers x = Due.cake("tier a 2 by 1 high 1;draw " + draw + ";");
        x.cut(0, 0, 1);
        return x.about(4);
    }

    private static int broken(int draw, String slip) {
        ThreeTiers x = Due.cake("tier a 2 by 1 high 1;draw " + draw + ";slip " + slip + ";");
        x.cut(0, 0, 1);
        return x.about(5);
    }

    private static void cutBreaksBelow() {
        DUE.sentence(0, "if its rest by 100 is less than what comes of slip");
        // 9 goes to 304, 217 to 800, 884 to 179, 44 to 99.
        DUE.is("4 by 3", broken(9, "3"), 0);
        DUE.is("4 by 4", broken(9, "4"), 0);
        DUE.is("4 by 5", broken(9, "5"), 2);
        DUE.is("0 by 0", broken(217, "0"), 0);
        DUE.is("0 by 1", broken(217, "1"), 2);
        DUE.is("0 by -1", broken(217, "0-1"), 0);
        DUE.is("0 by 9999", broken(217, "9999"), 2);
        DUE.is("79 by 79", broken(884, "79"), 0);
        DUE.is("79 by 80", broken(884, "80"), 2);
        DUE.is("99 by 99", broken(44, "99"), 0);
        DUE.is("99 by 100", broken(44, "100"), 2);
        DUE.is("99 by 101", broken(44, "101"), 2);
    }

    private static void cutMinute() {
        DUE.sentence(0, "the minute is more by the pace");
        for (int pace : new int[] {0, 1, 59, 60}) {
            ThreeTiers x = Due.cake("tier a 4 by 1 high 1;pace " + pace + ";");
            for (int i = 1; i < 4; i++) {
                x.cut(i - 1, 0, 1);
                DUE.is("minute", x.about(3), i * pace);
            }
        }
        // The slip is asked for ahead of it.
        ThreeTiers x = Due.cake("tier a 4 by 1 high 1;pace 1;slip minute*100;");
        x.cut(0, 0, 2);
        DUE.is("not broken at 0", x.about(5), 0);
        x.cut(0, 0, 1);
        DUE.is("broken at 1", x.about(5), 4);
    }

    private static void cutRefuses() {
        DUE.sentence(10, "NONE, doing nothing, if it can't be");
        ThreeTiers x = Due.cake("tier a 4 by 3 high 1;tier b 4 by 3 high 1;guest g wants 1;slip 50;");
        x.give(1, 0);
        DUE.unchanged(x, () -> {
            DUE.all("columns behind", -1, behind -> x.cut(0, 0, behind), -1, 0, 4, 5, LEAST, MOST);
            DUE.all("rows behind", -1, behind -> x.cut(0, 1, behind), -1, 0, 3, 4, LEAST, MOST);
            DUE.all("way", -1, way -> x.cut(0, way, 1), -1, 2, LEAST, MOST);
            DUE.all("piece", -1, piece -> x.cut(piece, 0, 1), -1, 2, 24, LEAST, MOST);
            DUE.is("on a plate", x.cut(1, 0, 1), -1);
        });
        DUE.is("of nothing", new ThreeTiers().cut(0, 0, 1), -1);
        x.back(0);
        DUE.is("on no plate again", x.cut(1, 0, 1), 2);
    }

    private static void cutAtTwentyFour() {
        DUE.sentence(10, "or there are 24");
        ThreeTiers x = full();
        String before = Due.table(x);
        DUE.is("columns", x.cut(3, 0, 1), -1);
        DUE.is("columns", x.cut(3, 0, 7), -1);
        DUE.same("the table", Due.table(x), before);
        DUE.is("undo()", x.undo(), true);
        DUE.is("the 24th", x.cut(3, 0, 1), 23);
        DUE.is("one more", x.cut(3, 0, 1), -1);
    }

    private static void giveCounts() {
        DUE.sentence(11, "A PIECE is put on a plate: how many are on plates then");
        ThreeTiers x = Due.cake("tier a 8 by 1 high 1;" + TextEdges.sixGuests());
        for (int i = 0; i < 6; i++) {
            x.cut(i, 0, 1);
        }
        for (int guest = 0; guest < 6; guest++) {
            DUE.is("give to " + guest, x.give(6 - guest, guest), guest + 1);
            DUE.is("plate", x.piece(6 - guest, 8), guest);
            DUE.is("his", x.guest(guest, 3), 6 - guest);
        }
        x.back(2);
        DUE.is("six again", x.give(0, 2), 6);
        DUE.is("a piece may be less than he wants", Due.cake("tier a 1 by 1 high 1;guest g wants 999;").give(0, 0), 1);
    }

    private static void giveRefuses() {
        DUE.sentence(11, "NONE, doing nothing, if it is on one, the GUEST has one, or one can't be");
        ThreeTiers x = Due.cake("tier a 1 by 1 high 1;tier b 1 by 1 high 1;guest g wants 1;guest h wants 1;");
        x.give(0, 1);
        DUE.unchanged(x, () -> {
            DUE.is("on a plate", x.give(0, 0), -1);
            DUE.is("on his plate", x.give(0, 1), -1);
            DUE.is("the guest has one", x.give(1, 1), -1);
            DUE.all("piece", -1, piece -> x.give(piece, 0), -1, 2, 24, LEAST, MOST);
            DUE.all("guest", -1, guest -> x.give(1, guest), -1, 2, 6, LEAST, MOST);
        });
        DUE.is("give(1, 0)", x.give(1, 0), 2);
        DUE.is("of nothing", new ThreeTiers().give(0, 0), -1);
    }

    private static void backGives() {
        DUE.sentence(12, "It is taken back: which");
        ThreeTiers x = Due.cake("tier a 1 by 1 high 1;tier b 1 by 1 high 1;guest g wants 1;guest h wants 1;");
        x.give(0, 1);
        x.give(1, 0);
        DUE.is("back(0)", x.back(0), 1);
        DUE.row("plates", piece -> x.piece(piece, 8), 1, -1);
        DUE.is("back(1)", x.back(1), 0);
        DUE.row("pieces", guest -> x.guest(guest, 3), -1, -1);
        DUE.is("it can be given again", x.give(0, 0), 1);
    }

    private static void backRefuses() {
        DUE.sentence(12, "NONE, doing nothing, if he has none, or there is none such");
        ThreeTiers x = Due.cake("tier a 1 by 1 high 1;guest g wants 1;guest h wants 1;");
        x.give(0, 1);
        DUE.unchanged(x, () -> DUE.all("back", -1, x::back, 0, -1, 2, 6, LEAST, MOST));
        x.back(1);
        DUE.unchanged(x, () -> DUE.is("back again", x.back(1), -1));
        DUE.is("of nothing", new ThreeTiers().back(0), -1);
    }

    private static void exchangeGives() {
        DUE.sentence(13, "Two exchange: the first one's PIECE then");
        ThreeTiers x = Due.cake("tier a 1 by 1 high 1;tier b 1 by 1 high 1;tier c 1 by 1 high 1;guest g wants 1;guest h wants 1;guest i wants 1;");
        x.give(2, 0);
        x.give(0, 1);
        x.give(1, 2);
        DUE.is("exchange(0, 1)", x.exchange(0, 1), 0);
        DUE.row("pieces", guest -> x.guest(guest, 3), 0, 2, 1);
        DUE.row("plates", piece -> x.piece(piece, 8), 0, 2, 1);
        DUE.is("exchange(2, 0)", x.exchange(2, 0), 0);
        DUE.row("pieces", guest -> x.guest(guest, 3), 1, 2, 0);
        DUE.row("plates", piece -> x.piece(piece, 8), 2, 0, 1);
    }

    private static void exchangeRefuses() {
        DUE.sentence(13, "NONE, doing nothing, if one has none, both are one, or one can't be");
        ThreeTiers x = Due.cake("tier a 1 by 1 high 1;tier b 1 by 1 high 1;guest g wants 1;guest h wants 1;guest i wants 1;");
        x.give(0, 0);
        x.give(1, 1);
        DUE.unchanged(x, () -> {
            DUE.is("the other has none", x.exchange(0, 2), -1);
            DUE.is("the first has none", x.exchange(2, 1), -1);
            DUE.is("both are one", x.exchange(1, 1), -1);
            DUE.is("both are one without", x.exchange(2, 2), -1);
            DUE.all("other", -1, other -> x.exchange(0, other), -1, 3, 6, LEAST, MOST);
            DUE.all("guest", -1, guest -> x.exchange(guest, 0), -1, 3, 6, LEAST, MOST);
        });
        DUE.is("exchange(0, 1)", x.exchange(0, 1), 1);
        DUE.is("of nothing", new ThreeTiers().exchange(0, 1), -1);
    }

    private static ThreeTiers plain() {
        return Due.cake("tier a 6 by 4 high 1;guest g wants 1;guest h wants 1;slip 40;draw 9;pace 7;");
    }

    /** One of each kind of act, and each such that it can be seen. */
    private static void act(ThreeTiers x, int i) {
        switch (i) {
            case 0: x.cut(0, 0, 2); break;
            case 1: x.cut(1, 1, 3); break;
            case 2: x.give(1, 0); break;
            case 3: x.give(2, 1); break;
            case 4: x.exchange(1, 0); break;
            case 5: x.back(0); break;
            default: x.cut(0, 1, 1);
        }
    }

    private static void undoLatest() {
        DUE.sentence(14, "UNDO: true");
        ThreeTiers x = plain();
        String[] tables = new String[8];
        for (int i = 0; i < 7; i++) {
            tables[i] = Due.table(x);
            act(x, i);
        }
        DUE.is("acts", x.about(6), 7);
        for (int i = 6; i >= 0; i--) {
            DUE.is("undo of " + i, x.undo(), true);
            DUE.same("the table", Due.table(x), tables[i]);
            DUE.is("to undo", x.about(6), i);
            DUE.is("to redo", x.about(7), 7 - i);
        }
    }

    private static void undoNone() {
        DUE.sentence(14, "false if there is none");
        ThreeTiers x = plain();
        DUE.is("at first", x.undo(), false);
        act(x, 0);
        x.undo();
        DUE.unchanged(x, () -> DUE.is("all undone", x.undo(), false));
        x.redo();
        DUE.is("done again", x.undo(), true);
        DUE.sentence(0, "UNDO takes back the latest ACT that was not");
        ThreeTiers y = plain();
        y.cut(0, 0, 1);
        y.cut(1, 0, 1);
        y.cut(2, 0, 1);
        y.undo();
        y.undo();
        DUE.is("two of three are taken back", y.about(2), 2);
        y.cut(1, 1, 1);
        y.undo();
        y.undo();
        DUE.is("then the one behind them and the first", y.about(2), 1);
        DUE.is("no other is left", y.undo(), false);
    }

    private static void redoLast() {
        DUE.sentence(15, "REDO: true");
        ThreeTiers x = plain();
        String[] tables = new String[8];
        for (int i = 0; i < 7; i++) {
            act(x, i);
            tables[i] = Due.table(x);
        }
        for (int i = 0; i < 7; i++) {
            x.undo();
        }
        for (int i = 0; i < 7; i++) {
            DUE.is("redo of " + i, x.redo(), true);
            DUE.same("the table", Due.table(x), tables[i]);
            DUE.is("to redo", x.about(7), 6 - i);
        }
    }

    private static void redoNone() {
        DUE.sentence(15, "false if there is none");
        ThreeTiers x = plain();
        DUE.is("at first", x.redo(), false);
        act(x, 0);
        DUE.unchanged(x, () -> DUE.is("nothing undone", x.redo(), false));
        x.undo();
        x.redo();
        DUE.unchanged(x, () -> DUE.is("all done again", x.redo(), false));
    }

    private static void redoTillAnotherAct() {
        DUE.sentence(0, "REDO does that again which was taken back last (till another ACT)");
        for (int kind = 0; kind < 4; kind++) {
            ThreeTiers x = plain();
            for (int i = 0; i < 5; i++) {
                act(x, i);
            }
            x.undo();
            DUE.is("to redo", x.about(7), 1);
            int done = kind == 0 ? x.cut(0, 0, 1) : kind == 1 ? x.back(0) : kind == 2 ? x.exchange(0, 1) : x.undo() ? x.give(2, 1) : -1;
            DUE.is("another act", done >= 0, true);
            DUE.is("to redo", x.about(7), 0);
            DUE.unchanged(x, () -> DUE.is("redo()", x.redo(), false));
        }
    }

    private static void fortyKept() {
        DUE.sentence(0, "40 at most are kept, the oldest go");
        ThreeTiers x = plain();
        x.cut(0, 0, 1);
        x.cut(1, 0, 1);
        for (int i = 0; i < 19; i++) {
            x.give(1, 0);
            x.back(0);
        }
        DUE.is("forty", x.about(6), 40);
        x.give(2, 0);
        DUE.is("forty-one", x.about(6), 40);
        DUE.is("none to redo", x.about(7), 0);
        for (int i = 0; i < 40; i++) {
            DUE.is("undo " + i, x.undo(), true);
        }
        DUE.is("the oldest is gone", x.undo(), false);
        DUE.is("the first cut stays", x.about(2), 2);
        DUE.is("to redo", x.about(7), 40);
        for (int i = 0; i < 40; i++) {
            DUE.is("redo " + i, x.redo(), true);
        }
        DUE.is("redo", x.redo(), false);
        DUE.row("as it was", guest -> x.guest(guest, 3), 2, -1);
        x.give(1, 1);
        DUE.is("forty yet", x.about(6), 40);
        x.undo();
        x.undo();
        DUE.row("the latest two undone", guest -> x.guest(guest, 3), -1, -1);
    }

    /** The i-th of many acts of all kinds, each unlike those beside it, so that a wrong one undone is seen. */
    private static int actOfMany(ThreeTiers x, int i) {
        int round = i / 12;
        switch (i % 12) {
            case 4: return x.give(round, 0);
            case 5: return x.give(round + 1, 1);
            case 6: return x.exchange(0, 1);
            case 7: return x.give(round + 3, 2);
            case 8: return x.exchange(1, 2);
            case 9:
            case 10:
            case 11: return x.back(i % 12 - 9);
            default: return cutOfMany(x, round * 4 + i % 12);
        }
    }

    /** The first tier is cut eight times, always what lies behind, then the second one. */
    private static int cutOfMany(ThreeTiers x, int n) {
        int[] behind = {1, 2, 2, 1};
        return x.cut(n % 8 == 0 ? n / 8 : n + 1, n % 2, behind[n % 4]);
    }

    private static ThreeTiers manyActs(int acts) {
        ThreeTiers x = Due.cake("tier a 8 by 8 high 1;tier b 8 by 8 high 1;guest f wants 1;guest g wants 1;guest h wants 1;slip 40;draw 9;pace 7;");
        for (int i = 0; i < acts; i++) {
            DUE.is("act " + i + " is done", actOfMany(x, i) >= 0, true);
        }
        return x;
    }

    private static String looks(ThreeTiers x) {
        return x.about(3) + " " + x.about(4) + " " + x.iced(5) + " " + x.guest(0, 3) + " " + x.guest(1, 3) + " " + x.guest(2, 3);
    }

    private static void oldestGo() {
        DUE.sentence(0, "40 at most are kept, the oldest go.");
        String[] due = new String[46];
        for (int acts = 0; acts <= 45; acts++) {
            due[acts] = looks(manyActs(acts));
        }
        ThreeTiers x = manyActs(45);
        DUE.is("kept", x.about(6), 40);
        for (int i = 44; i >= 5; i--) {
            DUE.is("undo of " + i, x.undo(), true);
            DUE.same("looks", looks(x), due[i]);
        }
        DUE.is("the oldest are gone", x.undo(), false);
        ThreeTiers y = manyActs(45);
        for (int i = 0; i < 40; i++) {
            y.undo();
        }
        for (int i = 6; i <= 45; i++) {
            DUE.is("redo of " + i, y.redo(), true);
            DUE.same("looks", looks(y), due[i]);
        }
        DUE.is("all are done again", y.redo(), false);
    }

    private static void refusedIsNoAct() {
        DUE.sentence(0, "ACTS: a CUT; a PIECE that is on no plate is put on a GUEST's who has none; a GUEST's is taken back; two GUESTS who have PIECES exchange them.");
        ThreeTiers x = plain();
        act(x, 0);
        act(x, 1);
        x.undo();
        DUE.is("cut", x.cut(0, 0, 9), -1);
        DUE.is("give", x.give(9, 0), -1);
        DUE.is("back", x.back(0), -1);
        DUE.is("exchange", x.exchange(0, 1), -1);
        x.image(0);
        x.picks();
        x.order();
        x.sized(1, true);
        x.later(1);
        DUE.is("to undo yet", x.about(6), 1);
        DUE.is("to redo yet", x.about(7), 1);
        DUE.is("redo()", x.redo(), true);
    }

    private ActEdges() {
    }
}
