/** Promises 6 to 15, 31, 34, 35 and 45 to 47: pieces, formulas, acts, images. */
public final class TableTest {
    private static final Due DUE = new Due("TableTest");

    public static void main(String[] args) {
        pieces();
        formulas();
        cuts();
        breaking();
        plates();
        undoing();
        fortyActs();
        lookingOn();
        images();
        abouts();
        DUE.finish();
    }

    private static void pieces() {
        ThreeTiers x = Due.cake("tier a 5 by 3 high 2;tier b 1 by 1 high 9;guest g wants 4;");
        DUE.is("piece(0, 6)", x.piece(0, 6), 16);
        DUE.is("piece(1, 6)", x.piece(1, 6), 4);
        x.cut(0, 0, 2);
        x.cut(2, 1, 1);
        int[][] want = {{0, 0, 0, 2, 3, 12, 7, 0, -1}, {1, 0, 0, 1, 1, 9, 4, 0, -1},
            {0, 2, 0, 3, 1, 6, 4, 0, -1}, {0, 2, 1, 3, 2, 12, 5, 0, -1}};
        for (int piece = 0; piece < 4; piece++) {
            for (int what = 0; what < 9; what++) {
                DUE.is("piece(" + piece + ", " + what + ")", x.piece(piece, what), want[piece][what]);
            }
        }
        DUE.is("piece(0, 9)", x.piece(0, 9), -2);
        DUE.is("piece(0, -1)", x.piece(0, -1), -2);
        DUE.is("piece(4, 0)", x.piece(4, 0), -2);
        DUE.is("piece(-1, 0)", x.piece(-1, 0), -2);
        DUE.is("guest(0, 5)", x.guest(0, 5), -2);
        DUE.is("guest(0, -1)", x.guest(0, -1), -2);
        DUE.is("guest(1, 0)", x.guest(1, 0), -2);
        DUE.is("guest(-1, 0)", x.guest(-1, 0), -2);
        DUE.is("give", x.give(3, 0), 1);
        DUE.is("piece(3, 8)", x.piece(3, 8), 0);
        DUE.is("guest(0, 3)", x.guest(0, 3), 3);
        DUE.is("guest(0, 4)", x.guest(0, 4), 12);
    }

    private static void worth(String formula, int want) {
        // AREA 24, ICING 10, sweet 3, minute 0, not broken.
        ThreeTiers x = Due.cake("tier a 4 by 1 high 6;guest g wants 1 sweet 3;worth " + formula + ";");
        DUE.is("worth of " + formula, x.worth(0, 0), want);
    }

    private static void formulas() {
        worth("area", 24);
        worth("icing", 10);
        worth("sweet", 3);
        worth("broken", 0);
        worth("long", 0);
        worth("minute", 0);
        worth("2+3*4-5", 9);
        worth("(2+3)*4", 20);
        worth("10-4-3", 3);
        worth("100/7/2", 7);
        worth("100%7*2", 4);
        worth("(0-7)/2", -3);
        worth("(0-7)%2", -1);
        worth("7/0", 0);
        worth("7%0", 0);
        worth("7/(3-sweet)", 0);
        worth("1<2", 1);
        worth("2<1", 0);
        worth("2>1", 1);
        worth("1>1", 0);
        worth("2=2", 1);
        worth("2=3", 0);
        worth("not 0", 1);
        worth("not 5", 0);
        worth("not not 5", 1);
        worth("3 and 4", 1);
        worth("3 and 0", 0);
        worth("1 and 1", 1);
        worth("0 and 1", 0);
        worth("1<1", 0);
        worth("0 or 7", 1);
        worth("0 or 0", 0);
        worth("1 or 0 and 0", 1);
        worth("not 1 or 1", 1);
        worth("not 1=2", 1);
        worth("not (1 or 1)", 0);
        worth("(area>20)*100+(icing=10)*10+(not broken)", 111);
        worth("9999*9999*9999", 9999 * 9999 * 9999);
        worth("9999*9999*30", 9999 * 9999 * 30);
        // The least int by -1: Java's own wrap-around.
        worth("(0-8192*8192*32)/(0-1)", Integer.MIN_VALUE);
        worth("(0-8192*8192*32)%(0-1)", 0);
        ThreeTiers x = Due.cake("tier a 4 by 1 high 6;guest g wants 1;");
        DUE.is("worth(1, 0)", x.worth(1, 0), -1000000000);
        DUE.is("worth(-1, 0)", x.worth(-1, 0), -1000000000);
        DUE.is("worth(0, 1)", x.worth(0, 1), -1000000000);
        DUE.is("worth(0, -1)", x.worth(0, -1), -1000000000);
    }

    private static void cuts() {
        ThreeTiers x = Due.cake("tier a 3 by 2 high 1;guest g wants 1;slip area*10+long-minute;pace 5;");
        DUE.is("slip(0, 0, 1)", x.slip(0, 0, 1), 62);
        DUE.is("slip(0, 1, 1)", x.slip(0, 1, 1), 63);
        DUE.is("slip(0, 0, 0)", x.slip(0, 0, 0), -1);
        DUE.is("slip(0, 0, 3)", x.slip(0, 0, 3), -1);
        DUE.is("slip(0, 1, 2)", x.slip(0, 1, 2), -1);
        DUE.is("slip(0, 2, 1)", x.slip(0, 2, 1), -1);
        DUE.is("slip(0, -1, 1)", x.slip(0, -1, 1), -1);
        DUE.is("slip(1, 0, 1)", x.slip(1, 0, 1), -1);
        DUE.is("slip(-1, 0, 1)", x.slip(-1, 0, 1), -1);
        DUE.is("cut(0, 0, 3)", x.cut(0, 0, 3), -1);
        DUE.is("cut(0, 0, 0)", x.cut(0, 0, 0), -1);
        DUE.is("cut(0, 2, 1)", x.cut(0, 2, 1), -1);
        DUE.is("cut(1, 0, 1)", x.cut(1, 0, 1), -1);
        DUE.is("nothing done", x.about(6) + x.about(3) + x.about(4), 0);
        DUE.is("cut(0, 0, 2)", x.cut(0, 0, 2), 1);
        DUE.is("minute", x.about(3), 5);
        DUE.is("seed", x.about(4), 71);
        DUE.is("slip by minute", x.slip(0, 1, 1), 37);
        x.give(0, 0);
        DUE.is("slip on a plate", x.slip(0, 1, 1), -1);
        DUE.is("cut on a plate", x.cut(0, 1, 1), -1);
        DUE.is("slip below 0", Due.cake("tier a 2 by 1 high 1;slip 0-5;").slip(0, 0, 1), 0);
        DUE.is("slip above 100", Due.cake("tier a 2 by 1 high 1;slip 101;").slip(0, 0, 1), 100);
        DUE.is("slip has no sweet", Due.cake("tier a 2 by 1 high 1;slip sweet+7;guest g wants 1 sweet 5;").slip(0, 0, 1), 7);
        x = Due.cake("tier a 2 by 1 high 1;slip sweet+7;worth broken*5+long*3+minute*100;guest g wants 1 sweet 5;");
        DUE.is("worth ahead of slip", x.worth(0, 0), 0);
        DUE.is("slip behind worth", x.slip(0, 0, 1), 7);
        x = Due.cake("tier a 2 by 1 high 1;slip 100;worth broken*5+long*3+minute*100;guest g wants 1 sweet 5;pace 60;");
        DUE.is("slip ahead of worth", x.slip(0, 0, 1), 100);
        x.cut(0, 0, 1);
        DUE.is("worth of a broken one", x.worth(0, 1), 6005);
        DUE.is("worth of the other", x.worth(0, 0), 6000);
        x = Due.cake("tier a 8 by 4 high 1;slip 17;guest g wants 1;guest h wants 2;");
        for (int i = 0; i < 3; i++) {
            DUE.is("rows", x.cut(i, 1, 1), i + 1);
        }
        for (int i = 4; i < 24; i++) {
            DUE.is("slip ahead of " + i, x.slip(3, 0, 1), 17);
            DUE.is("halve ahead of " + i, x.halve(3, 0, 1, 1), 4);
            DUE.is("share ahead of " + i, x.share(3, 0, 1), 4);
            int from = i < 11 ? i == 4 ? 0 : i - 1 : i < 18 ? i == 11 ? 1 : i - 1 : i == 18 ? 2 : i - 1;
            DUE.is("cut to " + i, x.cut(from, 0, 1), i);
        }
        DUE.is("cut beyond 24", x.cut(3, 0, 1), -1);
        DUE.is("next beyond 24", x.next(0), -1);
        DUE.is("slip beyond 24", x.slip(3, 0, 1), -1);
        DUE.is("halve beyond 24", x.halve(3, 0, 1, 0), -1);
        DUE.is("share beyond 24", x.share(3, 0, 1), -1000000000);
        DUE.is("undo", x.undo(), true);
        DUE.is("slip at 23", x.slip(3, 0, 1), 17);
        DUE.is("halve at 23", x.halve(3, 0, 1, 1), 4);
        DUE.is("share at 23", x.share(3, 0, 1), 4);
        DUE.is("next at 23", x.next(0), 3);
        DUE.is("redo", x.redo(), true);
        DUE.is("halve at 24 again", x.halve(3, 0, 1, 1), -1);
    }

    private static void breaking() {
        // Seeds from 9: 304, 719, 574, 709, 204: rests by 100: 4, 19, 74, 9, 4.
        ThreeTiers x = Due.cake("tier a 8 by 1 high 1;draw 9;slip 19;");
        int[] seeds = {304, 719, 574, 709, 204};
        boolean[] breaks = {true, false, false, true, true};
        for (int i = 0; i < 5; i++) {
            DUE.is("cut", x.cut(0, 0, 7 - i), i + 1);
            DUE.is("seed", x.about(4), seeds[i]);
            DUE.is("broken", x.piece(i + 1, 7), breaks[i] ? 1 : 0);
        }
        DUE.is("broken as bits", x.about(5), 2 + 16 + 32);
        x = Due.cake("tier a 8 by 1 high 1;draw 9;slip 19-broken*100;");
        x.cut(0, 0, 4);
        DUE.is("a broken one stays so", x.cut(1, 0, 2) == 2 && x.piece(2, 7) == 1 && x.piece(0, 7) == 0, true);
        DUE.is("slip of a broken one", x.slip(1, 0, 1), 0);
        DUE.is("slip of a sound one", x.slip(0, 0, 1), 19);
    }

    private static void plates() {
        ThreeTiers x = Due.cake("tier a 4 by 1 high 1;guest g wants 100;guest h wants 1;guest i wants 1;");
        x.cut(0, 0, 1);
        x.cut(1, 0, 1);
        DUE.is("give(0, 0)", x.give(0, 0), 1);
        DUE.is("give taken piece", x.give(0, 1), -1);
        DUE.is("give to one who has", x.give(1, 0), -1);
        DUE.is("give(3, 1)", x.give(3, 1), -1);
        DUE.is("give(-1, 1)", x.give(-1, 1), -1);
        DUE.is("give(1, 3)", x.give(1, 3), -1);
        DUE.is("give(1, -1)", x.give(1, -1), -1);
        DUE.is("give(2, 2)", x.give(2, 2), 2);
        DUE.is("exchange(0, 2)", x.exchange(0, 2), 2);
        DUE.is("guest(0, 3)", x.guest(0, 3), 2);
        DUE.is("guest(2, 3)", x.guest(2, 3), 0);
        DUE.is("piece(0, 8)", x.piece(0, 8), 2);
        DUE.is("piece(2, 8)", x.piece(2, 8), 0);
        DUE.is("exchange(0, 1)", x.exchange(0, 1), -1);
        DUE.is("exchange(1, 0)", x.exchange(1, 0), -1);
        DUE.is("exchange(0, 0)", x.exchange(0, 0), -1);
        DUE.is("exchange(0, 3)", x.exchange(0, 3), -1);
        DUE.is("exchange(-1, 0)", x.exchange(-1, 0), -1);
        DUE.is("back(1)", x.back(1), -1);
        DUE.is("back(3)", x.back(3), -1);
        DUE.is("back(-1)", x.back(-1), -1);
        DUE.is("back(0)", x.back(0), 2);
        DUE.is("piece(2, 8)", x.piece(2, 8), -1);
        DUE.is("guest(0, 3)", x.guest(0, 3), -1);
        DUE.is("guest(0, 4)", x.guest(0, 4), 0);
        DUE.is("acts", x.about(6), 6);
        DUE.is("minute", x.about(3), 2);
    }

    private static void undoing() {
        ThreeTiers x = Due.cake("tier a 6 by 4 high 1;guest g wants 1;guest h wants 1;slip 40;draw 9;pace 7;");
        String[] tables = new String[8];
        tables[0] = Due.table(x);
        x.cut(0, 0, 2);
        tables[1] = Due.table(x);
        x.cut(1, 1, 3);
        tables[2] = Due.table(x);
        x.give(1, 0);
        tables[3] = Due.table(x);
        x.give(2, 1);
        tables[4] = Due.table(x);
        x.exchange(0, 1);
        tables[5] = Due.table(x);
        x.back(1);
        tables[6] = Due.table(x);
        x.cut(0, 1, 1);
        tables[7] = Due.table(x);
        for (int i = 6; i >= 0; i--) {
            DUE.is("undo()", x.undo(), true);
            DUE.is("table " + i, tables[i].equals(Due.table(x)), true);
            DUE.is("about(6)", x.about(6), i);
            DUE.is("about(7)", x.about(7), 7 - i);
        }
        DUE.is("undo()", x.undo(), false);
        for (int i = 1; i <= 7; i++) {
            DUE.is("redo()", x.redo(), true);
        }
        DUE.is("table 7", tables[7].equals(Due.table(x)), true);
        DUE.is("redo()", x.redo(), false);
        x.undo();
        x.undo();
        DUE.is("a failed act", x.give(9, 9), -1);
        DUE.is("redone yet", x.about(7), 2);
        x.exchange(0, 1);
        DUE.is("no redo behind an act", x.redo(), false);
        DUE.is("about(7)", x.about(7), 0);
        DUE.is("exchanged back", x.guest(0, 3), 1);
    }

    private static void fortyActs() {
        ThreeTiers x = Due.cake("tier a 2 by 1 high 1;guest g wants 1;");
        x.cut(0, 0, 1);
        for (int i = 0; i < 20; i++) {
            x.give(i % 2, 0);
            x.back(0);
        }
        DUE.is("about(6)", x.about(6), 40);
        for (int i = 0; i < 40; i++) {
            DUE.is("undo " + i, x.undo(), true);
        }
        DUE.is("the oldest went", x.undo(), false);
        DUE.is("pieces", x.about(2), 2);
        DUE.is("about(7)", x.about(7), 40);
        for (int i = 0; i < 40; i++) {
            DUE.is("redo " + i, x.redo(), true);
        }
        DUE.is("redo", x.redo(), false);
        x.give(1, 0);
        DUE.is("about(6)", x.about(6), 40);
        DUE.is("undo", x.undo(), true);
        DUE.is("guest(0, 3)", x.guest(0, 3), -1);
    }

    private static void lookingOn() {
        ThreeTiers x = Due.cake("tier a 3 by 3 high 2;tier b 2 by 1 high 5;guest g wants 1;");
        x.cut(0, 0, 1);
        x.cut(2, 1, 1);
        int[][] want = {{0, 2, 2}, {0, 3, 3}, {0, 3, 3}};
        for (int row = 0; row < 3; row++) {
            for (int column = 0; column < 3; column++) {
                DUE.is("where(0, " + column + ", " + row + ")", x.where(0, column, row), want[row][column]);
            }
        }
        DUE.is("where(1, 1, 0)", x.where(1, 1, 0), 1);
        DUE.is("where(1, 0, 1)", x.where(1, 0, 1), -1);
        DUE.is("where(0, 3, 0)", x.where(0, 3, 0), -1);
        DUE.is("where(0, 0, -1)", x.where(0, 0, -1), -1);
        DUE.is("where(2, 0, 0)", x.where(2, 0, 0), -1);
        DUE.is("where(-1, 0, 0)", x.where(-1, 0, 0), -1);
        DUE.is("left()", x.left(), 28);
        // Icings: 3 + 1 + 1 = 5; 1 by 2 whole 6; 2 + 1 = 3; 2 + 2 = 4.
        DUE.is("iced(0)", x.iced(0), 15);
        DUE.is("iced(4)", x.iced(4), 11);
        DUE.is("iced(5)", x.iced(5), 3);
        DUE.is("iced(6)", x.iced(6), 2);
        DUE.is("iced(32)", x.iced(32), 0);
        DUE.is("iced(33)", x.iced(33), -1);
        DUE.is("iced(-1)", x.iced(-1), -1);
        x.give(1, 0);
        DUE.is("left()", x.left(), 18);
        DUE.is("iced(0)", x.iced(0), 13);
        DUE.is("where(1, 1, 0)", x.where(1, 1, 0), 1);
        DUE.is("iced(32) of the whole", Due.cake("tier a 8 by 8 high 1;").iced(32), 1);
    }

    private static void images() {
        ThreeTiers x = Due.cake("tier a 6 by 4 high 1;guest g wants 1;slip 50;draw 9;");
        DUE.is("restore(0)", x.restore(0), -1);
        DUE.is("image(3)", x.image(3), -1);
        DUE.is("image(-1)", x.image(-1), -1);
        DUE.is("restore(3)", x.restore(3), -1);
        DUE.is("restore(-1)", x.restore(-1), -1);
        DUE.is("image(0)", x.image(0), 1);
        String first = Due.table(x);
        x.cut(0, 0, 3);
        x.give(1, 0);
        DUE.is("image(2)", x.image(2), 2);
        String second = Due.table(x);
        x.back(0);
        x.cut(1, 1, 2);
        x.undo();
        DUE.is("restore(0)", x.restore(0), 1);
        DUE.is("first", first.equals(Due.table(x)), true);
        DUE.is("no acts", x.about(6) + x.about(7), 0);
        DUE.is("restore(2)", x.restore(2), 2);
        DUE.is("second", second.equals(Due.table(x)), true);
        x.back(0);
        DUE.is("restore(2) again", x.restore(2), 2);
        DUE.is("second again", second.equals(Due.table(x)), true);
        DUE.is("undo()", x.undo(), false);
        DUE.is("restore(1)", x.restore(1), -1);
        DUE.is("image over", x.image(0), 2);
        x.back(0);
        x.restore(0);
        DUE.is("second in box 0", second.equals(Due.table(x)), true);
    }

    private static void abouts() {
        ThreeTiers x = Due.cake("tier a 6 by 4 high 1;tier b 6 by 4 high 1;guest g wants 1;worth area+1;slip (50);draw 9;pace 4;");
        x.cut(0, 0, 1);
        x.give(0, 0);
        x.undo();
        x.sized(1, true);
        x.sized(1, true);
        x.untell(0);
        x.later(77);
        x.picks();
        x.feed(0, 0, 0, 0, 0);
        int[] want = {2, 1, 3, 4, 304, 4, 1, 1, 2, 77, 20, 4, 1};
        for (int what = 0; what < want.length; what++) {
            DUE.is("about(" + what + ")", x.about(what), want[what]);
        }
        DUE.is("about(13)", x.about(13), -1);
        DUE.is("about(-1)", x.about(-1), -1);
    }
}
