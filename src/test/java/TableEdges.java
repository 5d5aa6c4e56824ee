/** Promises 6 to 8, 31, 34, 35 and 45 to 47: what is on the table, and images of it. */
final class TableEdges {
    private static final Due DUE = EdgesTest.DUE;
    private static final int LEAST = Integer.MIN_VALUE;
    private static final int MOST = Integer.MAX_VALUE;
    private static final int NO_WORTH = -1000000000;

    static void run() {
        firstPieces();
        icings();
        pieceOnNoPlate();
        pieceRefuses();
        guestWithoutPiece();
        guestRefuses();
        worthRefuses();
        whereIs();
        whereNoCell();
        leftOver();
        icedAtLeast();
        icedRefuses();
        imageKeeps();
        imageRefuses();
        restoreAll();
        restoreKeepsNoActs();
        restoreRefuses();
        aboutAll();
        aboutRefuses();
        lastCall();
    }

    private static void firstPieces() {
        DUE.sentence(0, "at first each TIER is one PIECE, by number");
        ThreeTiers x = Due.cake("tier c 8 by 8 high 9;tier b 1 by 1 high 1;tier a 2 by 3 high 4;");
        DUE.is("about(2)", x.about(2), 3);
        DUE.row("piece 0", what -> x.piece(0, what), 0, 0, 0, 8, 8, 576, 32, 0, -1);
        DUE.row("piece 1", what -> x.piece(1, what), 1, 0, 0, 1, 1, 1, 4, 0, -1);
        DUE.row("piece 2", what -> x.piece(2, what), 2, 0, 0, 2, 3, 24, 10, 0, -1);
        DUE.is("piece(3, 0)", x.piece(3, 0), -2);
    }

    private static void icings() {
        DUE.sentence(0, "its ICING (how many sides of its CELLS are on its TIER's rim)");
        ThreeTiers x = Due.cake("tier a 5 by 4 high 3;");
        x.cut(0, 0, 1);
        x.cut(1, 0, 2);
        x.cut(1, 1, 1);
        x.cut(3, 1, 2);
        // Left column; middle two columns in three parts; right two columns.
        DUE.row("icing", piece -> x.piece(piece, 6), 6, 2, 8, 0, 2, -2);
        DUE.row("area", piece -> x.piece(piece, 5), 12, 6, 24, 12, 6, -2);
        DUE.sentence(0, "A PIECE has its AREA (its CELLS, times how high its TIER is)");
        DUE.is("the most", Due.cake("tier a 8 by 8 high 9;").piece(0, 5), 576);
        DUE.is("the least", Due.cake("tier a 1 by 1 high 1;").piece(0, 5), 1);
    }

    private static void pieceOnNoPlate() {
        DUE.sentence(6, "8: whose plate it is on (NONE)");
        ThreeTiers x = Due.cake("tier a 2 by 1 high 1;guest g wants 1;guest h wants 1;");
        x.cut(0, 0, 1);
        DUE.row("plate", piece -> x.piece(piece, 8), -1, -1);
        x.give(0, 1);
        DUE.row("plate", piece -> x.piece(piece, 8), 1, -1);
        x.give(1, 0);
        DUE.row("plate", piece -> x.piece(piece, 8), 1, 0);
        x.back(1);
        DUE.row("plate", piece -> x.piece(piece, 8), -1, 0);
        DUE.sentence(0, "it is BROKEN or not (not at first)");
        ThreeTiers whole = Due.cake("tier a 2 by 1 high 1;tier b 2 by 1 high 1;slip 100;");
        DUE.row("broken", piece -> whole.piece(piece, 7), 0, 0);
        DUE.is("broken pieces", whole.about(5), 0);
        DUE.sentence(6, "7: 1 if it is BROKEN, else 0");
        ThreeTiers y = Due.cake("tier a 2 by 1 high 1;slip 100;");
        y.cut(0, 0, 1);
        DUE.row("broken", piece -> y.piece(piece, 7), 0, 1);
    }

    private static void pieceRefuses() {
        DUE.sentence(6, "-2 if there is none such, or for another what");
        ThreeTiers x = Due.cake("tier a 2 by 1 high 1;guest g wants 1;");
        DUE.all("what 0 of", -2, piece -> x.piece(piece, 0), -1, 1, 2, 23, 24, 25, LEAST, MOST);
        DUE.all("what 8 of", -2, piece -> x.piece(piece, 8), -1, 1, 24);
        DUE.all("piece 0, what", -2, what -> x.piece(0, what), -1, 9, 10, LEAST, MOST);
        x.cut(0, 0, 1);
        DUE.is("piece(1, 0)", x.piece(1, 0), 0);
        x.undo();
        DUE.is("piece(1, 0) undone", x.piece(1, 0), -2);
        DUE.is("piece(0, 0) of nothing", new ThreeTiers().piece(0, 0), -2);
    }

    private static void guestWithoutPiece() {
        DUE.sentence(7, "3: his PIECE (NONE), 4: its WORTH to him (0 without one)");
        ThreeTiers x = Due.cake("tier a 2 by 1 high 1;guest g wants 999 sweet 9 comes 0;guest h wants 0;worth 7+sweet;");
        DUE.row("guest 0", what -> x.guest(0, what), 999, 9, 0, -1, 0);
        DUE.row("guest 1", what -> x.guest(1, what), 0, 0, 100, -1, 0);
        x.give(0, 0);
        DUE.row("guest 0", what -> x.guest(0, what), 999, 9, 0, 0, 16);
        DUE.row("guest 1", what -> x.guest(1, what), 0, 0, 100, -1, 0);
        x.back(0);
        DUE.row("guest 0", what -> x.guest(0, what), 999, 9, 0, -1, 0);
    }

    private static void guestRefuses() {
        DUE.sentence(7, "-2 if there is none such, or for another what");
        ThreeTiers x = Due.cake(TextEdges.sixGuests());
        for (int what = 0; what < 5; what++) {
            int asked = what;
            DUE.all("what " + what + " of", -2, guest -> x.guest(guest, asked), -1, 6, 7, LEAST, MOST);
        }
        DUE.all("guest 0, what", -2, what -> x.guest(0, what), -1, 5, 6, LEAST, MOST);
        DUE.is("guest(5, 0)", x.guest(5, 0), 6);
        DUE.is("guest(1, 0) of one", Due.cake("guest g wants 1;").guest(1, 0), -2);
        DUE.is("guest(0, 0) of none", new ThreeTiers().guest(0, 0), -2);
    }

    private static void worthRefuses() {
        DUE.sentence(8, "WORTH; -1000000000 if one can't be");
        ThreeTiers x = Due.cake("tier a 2 by 1 high 1;guest g wants 1;guest h wants 1;worth 7;");
        DUE.all("guest", NO_WORTH, guest -> x.worth(guest, 0), -1, 2, 6, LEAST, MOST);
        DUE.all("piece", NO_WORTH, piece -> x.worth(0, piece), -1, 1, 24, LEAST, MOST);
        DUE.is("both", x.worth(2, 1), NO_WORTH);
        DUE.is("worth(1, 0)", x.worth(1, 0), 7);
        x.give(0, 0);
        DUE.is("of what is on a plate", x.worth(1, 0), 7);
        DUE.is("of nothing", new ThreeTiers().worth(0, 0), NO_WORTH);
    }

    private static void whereIs() {
        DUE.sentence(31, "The PIECE that has a CELL of a TIER (a COLUMN, a ROW)");
        ThreeTiers x = Due.cake("tier a 3 by 2 high 2;tier b 2 by 2 high 1;guest g wants 1;");
        x.cut(0, 0, 1);
        x.cut(2, 1, 1);
        x.cut(1, 1, 1);
        x.give(3, 0);
        int[][] rows = {{0, 2, 2}, {0, 3, 3}};
        for (int row = 0; row < 2; row++) {
            int asked = row;
            DUE.row("row " + row + " of the first", column -> x.where(0, column, asked), rows[row]);
        }
        DUE.row("the first row of the second", column -> x.where(1, column, 0), 1, 1);
        DUE.row("the second row of the second", column -> x.where(1, column, 1), 4, 4);
    }

    private static void whereNoCell() {
        DUE.sentence(31, "NONE if there is no such CELL");
        ThreeTiers x = Due.cake("tier a 3 by 2 high 2;tier b 8 by 8 high 1;");
        DUE.is("the last", x.where(0, 2, 1), 0);
        DUE.all("column", -1, column -> x.where(0, column, 0), -1, 3, 7, 8, LEAST, MOST);
        DUE.all("row", -1, row -> x.where(0, 0, row), -1, 2, 7, 8, LEAST, MOST);
        DUE.all("tier", -1, tier -> x.where(tier, 0, 0), -1, 2, 3, LEAST, MOST);
        DUE.is("the last of 8 by 8", x.where(1, 7, 7), 1);
        DUE.is("where(1, 8, 7)", x.where(1, 8, 7), -1);
        DUE.is("where(1, 7, 8)", x.where(1, 7, 8), -1);
        DUE.is("of nothing", new ThreeTiers().where(0, 0, 0), -1);
        DUE.is("with 24 pieces", ActEdges.full().where(0, 8, 0), -1);
        Due.tell(x, "tier a 3 by 2 high 2;");
        DUE.is("a tier that was once", x.where(1, 0, 0), -1);
    }

    private static void leftOver() {
        DUE.sentence(34, "AREA that is on no plate");
        ThreeTiers x = Due.cake("tier a 3 by 2 high 2;tier b 1 by 1 high 9;guest g wants 1;guest h wants 1;");
        DUE.is("all", x.left(), 21);
        x.cut(0, 0, 1);
        DUE.is("cut or not", x.left(), 21);
        x.give(0, 0);
        DUE.is("less the first", x.left(), 17);
        x.give(1, 1);
        DUE.is("less the second", x.left(), 8);
        x.back(0);
        DUE.is("taken back", x.left(), 12);
        ThreeTiers y = Due.cake("tier a 1 by 1 high 9;guest g wants 1;");
        y.give(0, 0);
        DUE.is("none is left", y.left(), 0);
        DUE.is("of nothing", new ThreeTiers().left(), 0);
        DUE.is("the most", Due.cake("tier a 8 by 8 high 9;tier b 8 by 8 high 9;tier c 8 by 8 high 9;").left(), 1728);
    }

    private static void icedAtLeast() {
        DUE.sentence(35, "PIECES on no plate of ICING n at least, as bits (0 .. 32)");
        ThreeTiers x = Due.cake("tier a 8 by 8 high 1;tier b 3 by 3 high 1;guest g wants 1;");
        x.cut(1, 0, 1);
        x.cut(2, 0, 1);
        x.cut(2, 1, 1);
        x.cut(4, 1, 1);
        // ICING: 32, 5, 1, 5, 0 and 1.
        int[] icings = {0, 1, 2, 5, 6, 31, 32};
        int[] want = {63, 47, 11, 11, 1, 1, 1};
        DUE.row("iced", i -> x.iced(icings[i]), want);
        x.give(0, 0);
        DUE.row("iced but for the first", i -> x.iced(icings[i]), 62, 46, 10, 10, 0, 0, 0);
        DUE.is("of nothing", new ThreeTiers().iced(0), 0);
    }

    private static void icedRefuses() {
        DUE.sentence(35, "NONE for another n");
        ThreeTiers x = Due.cake("tier a 8 by 8 high 1;");
        DUE.all("iced", -1, x::iced, -1, -2, 33, 34, LEAST, MOST);
        DUE.is("iced(0)", x.iced(0), 1);
        DUE.is("iced(32)", x.iced(32), 1);
    }

    private static ThreeTiers forImages() {
        ThreeTiers x = Due.cake("tier a 6 by 4 high 1;tier b 2 by 2 high 1;guest g wants 1;guest h wants 1;slip 50;draw 9;pace 7;");
        x.cut(0, 0, 3);
        x.give(2, 1);
        return x;
    }

    private static void change(ThreeTiers x) {
        x.back(1);
        x.cut(2, 1, 2);
        x.cut(0, 0, 1);
        x.give(1, 0);
    }

    private static void imageKeeps() {
        DUE.sentence(45, "PIECES, plates, the minute, the SEED are kept in a BOX 0 .. 2: how many PIECES");
        ThreeTiers x = forImages();
        DUE.unchanged(x, () -> DUE.all("image", 3, x::image, 0, 2));
        String first = Due.table(x);
        change(x);
        DUE.is("image(1)", x.image(1), 5);
        String second = Due.table(x);
        DUE.is("restore(2)", x.restore(2), 3);
        DUE.same("the table", Due.table(x), first);
        DUE.is("restore(1)", x.restore(1), 5);
        DUE.same("the table", Due.table(x), second);
        DUE.is("restore(0)", x.restore(0), 3);
        DUE.same("the table", Due.table(x), first);
        // A box that is not empty takes another image.
        change(x);
        DUE.is("image(0)", x.image(0), 5);
        x.restore(2);
        DUE.is("restore(0)", x.restore(0), 5);
        DUE.same("the table", Due.table(x), second);
        DUE.is("image of nothing", new ThreeTiers().image(0), 0);
    }

    private static void imageRefuses() {
        DUE.sentence(45, "NONE if there is none such");
        ThreeTiers x = forImages();
        DUE.unchanged(x, () -> DUE.all("image", -1, x::image, -1, 3, 4, LEAST, MOST));
        DUE.all("nothing was kept by it", -1, x::restore, -1, 0, 1, 2, 3);
    }

    private static void restoreAll() {
        DUE.sentence(46, "All is as it was kept");
        ThreeTiers x = forImages();
        String kept = Due.table(x);
        x.image(1);
        change(x);
        x.later(5);
        x.sized(4, true);
        x.picks();
        x.feed(0, 0, 0, 0, 0);
        DUE.is("restore(1)", x.restore(1), 3);
        DUE.same("the table", Due.table(x), kept);
        DUE.row("what each guest has", guest -> x.guest(guest, 3), -1, 2);
        DUE.is("minute and seed", x.about(3) * 1000 + x.about(4), 7304);
        // An image keeps nothing else, so nothing else goes back.
        DUE.is("what is SEEN stays", x.about(8), 1);
        DUE.is("the TIME stays", x.about(9), 5);
        DUE.is("the TAPE stays", x.about(10), 20);
        DUE.is("what lies there stays", x.about(12), 2);
        // It goes on from there as it did before.
        change(x);
        String gone = Due.table(x);
        DUE.is("restore(1) again", x.restore(1), 3);
        DUE.same("the table", Due.table(x), kept);
        change(x);
        DUE.same("gone on from", Due.table(x), gone);
    }

    private static void restoreKeepsNoActs() {
        DUE.sentence(46, "(no ACTS are kept then)");
        ThreeTiers x = forImages();
        x.image(0);
        x.undo();
        DUE.is("about(6) ahead of it", x.about(6), 1);
        DUE.is("about(7) ahead of it", x.about(7), 1);
        x.restore(0);
        DUE.is("about(6)", x.about(6), 0);
        DUE.is("about(7)", x.about(7), 0);
        DUE.unchanged(x, () -> {
            DUE.is("undo()", x.undo(), false);
            DUE.is("redo()", x.redo(), false);
        });
        x.back(1);
        DUE.is("acts go on", x.about(6), 1);
        DUE.is("undo()", x.undo(), true);
        DUE.is("the piece is back", x.guest(1, 3), 2);
    }

    private static void restoreRefuses() {
        DUE.sentence(46, "NONE, doing nothing, if nothing was");
        ThreeTiers x = forImages();
        x.undo();
        x.image(1);
        DUE.unchanged(x, () -> DUE.all("restore", -1, x::restore, -1, 0, 2, 3, LEAST, MOST));
        DUE.is("redo() yet", x.redo(), true);
        ThreeTiers empty = new ThreeTiers();
        DUE.all("restore", -1, empty::restore, 0, 1, 2);
        empty.image(0);
        DUE.is("an image of nothing is one", empty.restore(0), 0);
    }

    private static void aboutAll() {
        DUE.sentence(47, "What 0: TIERS, 1: GUESTS, 2: PIECES, 3: the minute, 4: the SEED, 5: BROKEN PIECES, as bits, 6: ACTS that can be undone, 7: redone, 8: what is SEEN, 9: the TIME, 10: bytes on the TAPE, 11: units, 12: how many lie there.");
        ThreeTiers x = Due.cake("tier a 6 by 4 high 1;tier b 6 by 4 high 1;guest f wants 1;guest g wants 1;guest h wants 1;worth area+1;slip 20;draw 9;pace 4;");
        x.cut(0, 0, 1);
        x.cut(1, 0, 1);
        x.cut(1, 1, 1);
        x.cut(4, 1, 2);
        x.give(0, 0);
        x.give(1, 1);
        x.back(0);
        x.undo();
        x.undo();
        x.sized(1, true);
        x.later(77);
        x.rimmed(1, true);
        x.order();
        x.feed(0, 0, 0, 0, 0);
        x.end(19);
        // Seeds 304, 719, 574, 709: the first, second and fourth break.
        DUE.row("about", x::about, 2, 3, 6, 16, 709, 4 + 8 + 32, 5, 2, 2, 77, 19, 3, 2);
    }

    private static void lastCall() {
        DUE.sentence(0, "An object is used for at most 512 calls after it has been made");
        ThreeTiers x = new ThreeTiers();
        for (int i = 1; i <= 511; i++) {
            DUE.is("call " + i, x.later(1), i);
        }
        DUE.is("the 512th", x.about(9), 511);
    }

    private static void aboutRefuses() {
        DUE.sentence(47, "NONE for another what.");
        ThreeTiers x = Due.cake("tier a 6 by 4 high 1;");
        DUE.all("about", -1, x::about, -1, -2, 13, 14, LEAST, MOST);
        DUE.all("about of nothing", -1, new ThreeTiers()::about, -1, 13);
    }

    private TableEdges() {
    }
}
