/** Promises 22 to 25, 30 and 37: one who cuts and one who picks, guests who pick in turn. */
final class PickingEdges {
    private static final Due DUE = EdgesTest.DUE;
    private static final int LEAST = Integer.MIN_VALUE;
    private static final int MOST = Integer.MAX_VALUE;
    private static final int NO_WORTH = -1000000000;

    static void run() {
        halveLikeAhead();
        halveFirstCut();
        halveNoCut();
        halveRefuses();
        halveOtherWhat();
        shareLeft();
        shareNone();
        picksLikeFirst();
        picksNoneLeft();
        picksWithout();
        picksLie();
        orderMost();
        orderFirst();
        orderLeast();
        orderNone();
        bestFirst();
        bestNone();
        liesNone();
    }

    private static void halve(String what, ThreeTiers x, int piece, int[] want) {
        DUE.row(what, i -> x.halve(piece, 0, 1, i), want[0], want[1], want[2]);
        DUE.is(what + ", share", x.share(piece, 0, 1), want[3]);
    }

    private static void halveLikeAhead() {
        DUE.sentence(0, "when the second one has picked the part of most WORTH to him (of like ones what lies ahead)");
        // All parts are alike to the second one, who has a sweet tooth; the first one likes much.
        ThreeTiers x = Due.cake("tier a 5 by 1 high 1;guest g wants 1;guest h wants 1 sweet 1;worth area*(1-sweet);");
        halve("like parts", x, 0, new int[] {0, 1, 0, 4});
        ThreeTiers y = Due.cake("tier a 2 by 1 high 1;guest g wants 1;guest h wants 1;");
        halve("halves", y, 0, new int[] {0, 1, 0, 1});
        ThreeTiers z = Due.cake("tier a 3 by 1 high 1;guest g wants 1;guest h wants 1;");
        halve("what lies behind is more", z, 0, new int[] {0, 1, 1, 1});
        // The second one likes least what is most to the first one.
        ThreeTiers w = Due.cake("tier a 4 by 1 high 1;guest g wants 1;guest h wants 1 sweet 1;worth area*(1-sweet*2);");
        halve("he leaves much", w, 0, new int[] {0, 1, 0, 3});
    }

    private static void halveFirstCut() {
        DUE.sentence(0, "is WORTH most to the first one; of like ones the first CUT (columns ahead of rows).");
        ThreeTiers x = Due.cake("tier a 2 by 2 high 1;guest g wants 1;guest h wants 1;");
        halve("columns ahead of rows", x, 0, new int[] {0, 1, 0, 2});
        ThreeTiers y = Due.cake("tier a 5 by 5 high 1;guest g wants 1;guest h wants 1;worth 7;");
        halve("the first of all", y, 0, new int[] {0, 1, 0, 7});
        ThreeTiers z = Due.cake("tier a 1 by 5 high 1;guest g wants 1;guest h wants 1;worth 0-7;");
        halve("rows alone, below 0", z, 0, new int[] {1, 1, 0, -7});
        ThreeTiers v = Due.cake("tier a 3 by 4 high 1;guest g wants 1;guest h wants 1;");
        halve("rows leave more", v, 0, new int[] {1, 2, 0, 6});
        ThreeTiers w = Due.cake("tier a 3 by 4 high 1;tier b 1 by 4 high 2;guest g wants 1;guest h wants 1;slip 100;");
        w.cut(0, 0, 1);
        halve("a broken one", w, 2, new int[] {0, 1, 0, 4});
        halve("another one", w, 1, new int[] {1, 2, 0, 4});
        // Both parts are where they would lie, and broken as the whole is.
        ThreeTiers u = Due.cake("tier a 4 by 3 high 1;guest g wants 1;guest h wants 1;slip 100;pace 5;worth icing+broken*10+minute*100;");
        u.cut(0, 0, 1);
        halve("icing of the parts", u, 1, new int[] {0, 2, 1, 514});
    }

    private static void halveNoCut() {
        DUE.sentence(22, "NONE if no CUT of the PIECE can be");
        ThreeTiers x = Due.cake("tier a 1 by 1 high 9;tier b 2 by 1 high 1;guest g wants 1;guest h wants 1;");
        halve("one cell", x, 0, new int[] {-1, -1, -1, NO_WORTH});
        halve("two cells", x, 1, new int[] {0, 1, 0, 1});
        x.give(1, 0);
        halve("on a plate", x, 1, new int[] {-1, -1, -1, NO_WORTH});
        ThreeTiers y = ActEdges.full();
        halve("with 24", y, 3, new int[] {-1, -1, -1, NO_WORTH});
        y.undo();
        halve("with 23", y, 3, new int[] {0, 4, 0, 4});
    }

    private static void halveRefuses() {
        DUE.sentence(22, "both are one, or one can't be");
        ThreeTiers x = Due.cake("tier a 4 by 1 high 9;guest g wants 1;guest h wants 1;");
        DUE.is("both are one", x.halve(0, 0, 0, 0), -1);
        DUE.is("both are one", x.halve(0, 1, 1, 0), -1);
        DUE.all("piece", -1, piece -> x.halve(piece, 0, 1, 0), -1, 1, 24, LEAST, MOST);
        DUE.all("guest", -1, guest -> x.halve(0, guest, 1, 0), -1, 2, 6, LEAST, MOST);
        DUE.all("other", -1, other -> x.halve(0, 0, other, 0), -1, 2, 6, LEAST, MOST);
        DUE.is("of nothing", new ThreeTiers().halve(0, 0, 1, 0), -1);
        DUE.is("as it can be", x.halve(0, 1, 0, 1), 2);
    }

    private static void halveOtherWhat() {
        DUE.sentence(22, "HALVE what 0: the way, 1: behind how many, 2: 1 if the second one picks what lies behind it, else 0");
        ThreeTiers x = Due.cake("tier a 4 by 1 high 9;guest g wants 1;guest h wants 1;");
        DUE.row("halve", what -> x.halve(0, 0, 1, what), 0, 2, 0);
        DUE.all("halve", -1, what -> x.halve(0, 0, 1, what), -1, 3, 4, LEAST, MOST);
    }

    private static void shareLeft() {
        DUE.sentence(23, "What HALVE leaves the first one is WORTH to him");
        // To the second one nothing is worth anything, so he takes what lies ahead.
        ThreeTiers x = Due.cake("tier a 5 by 1 high 2;guest g wants 1 sweet 3;guest h wants 1;worth area*sweet;");
        DUE.is("to the first one", x.share(0, 0, 1), 24);
        DUE.is("to the other one", x.share(0, 1, 0), 0);
        DUE.is("the least int", Due.cake("tier a 2 by 1 high 1;guest g wants 1;guest h wants 1;worth 8192*8192*32;").share(0, 0, 1), LEAST);
    }

    private static void shareNone() {
        DUE.sentence(23, "-1000000000 if there is none");
        ThreeTiers x = Due.cake("tier a 4 by 1 high 9;tier b 1 by 1 high 1;guest g wants 1;guest h wants 1;");
        DUE.is("share", x.share(0, 1, 0), 18);
        DUE.all("piece", NO_WORTH, piece -> x.share(piece, 0, 1), -1, 1, 2, 24, LEAST, MOST);
        DUE.all("guest", NO_WORTH, guest -> x.share(0, guest, 1), 1, -1, 2, LEAST, MOST);
        DUE.all("other", NO_WORTH, other -> x.share(0, 0, other), 0, -1, 2, LEAST, MOST);
        x.give(0, 0);
        DUE.is("on a plate", x.share(0, 0, 1), NO_WORTH);
        DUE.is("with 24", ActEdges.full().share(3, 0, 1), NO_WORTH);
        DUE.is("of nothing", new ThreeTiers().share(0, 0, 1), NO_WORTH);
    }

    private static void picksLikeFirst() {
        DUE.sentence(0, "each in turn takes the PIECE on no plate of most WORTH to him (of like ones the first;");
        ThreeTiers x = Due.cake("tier a 1 by 1 high 5;tier b 1 by 1 high 7;tier c 1 by 1 high 7;guest f wants 999;guest g wants 1;guest h wants 1;");
        DUE.is("picks", x.picks(), 3);
        DUE.row("lies", x::lies, 1, 2, 0, -2);
        ThreeTiers y = Due.cake("tier a 1 by 1 high 5;tier b 1 by 1 high 7;tier c 1 by 1 high 6;guest f wants 1 sweet 1;guest g wants 1;guest h wants 1;worth area*(1-sweet*2);");
        DUE.is("picks", y.picks(), 3);
        DUE.row("lies below 0", y::lies, 0, 1, 2, -2);
        y.give(1, 0);
        DUE.is("picks", y.picks(), 2);
        DUE.row("lies for those without a piece", y::lies, -1, 2, 0, -2);
    }

    private static void picksNoneLeft() {
        DUE.sentence(0, "none if none is left: 0)");
        ThreeTiers x = Due.cake("tier a 1 by 1 high 5;guest f wants 1;guest g wants 1;");
        DUE.is("picks", x.picks(), 1);
        DUE.row("lies", x::lies, 0, -1, -2);
        DUE.is("the last one has 0", x.order(), 0);
        // What is worth less than 0 is taken all the same, and less than 0 is the least.
        ThreeTiers y = Due.cake("tier a 1 by 1 high 5;guest f wants 1;guest g wants 1;worth 0-area;");
        DUE.is("picks", y.picks(), 1);
        DUE.is("the first one has -5", y.order(), -5);
        ThreeTiers z = Due.cake("guest f wants 1;guest g wants 1;worth 3;");
        DUE.is("picks of no pieces", z.picks(), 0);
        DUE.row("lies", z::lies, -1, -1, -2);
        DUE.is("order of no pieces", z.order(), 0);
        DUE.row("lies", z::lies, 0, 1, -2);
    }

    private static void picksWithout() {
        DUE.sentence(0, "PICKS in an order of all GUESTS without a PIECE");
        ThreeTiers x = Due.cake("tier a 1 by 1 high 5;tier b 1 by 1 high 7;guest f wants 1;guest g wants 1;guest h wants 1;");
        x.give(0, 1);
        DUE.is("picks", x.picks(), 1);
        DUE.row("who has a piece picks none", x::lies, 1, -1, -1, -2);
        x.give(1, 0);
        DUE.is("picks", x.picks(), 0);
        x.give(1, 2);
        x.back(0);
        x.back(1);
        DUE.is("picks", x.picks(), 2);
        DUE.row("lies", x::lies, 1, 0, -1, -2);
    }

    private static void picksLie() {
        DUE.sentence(24, "how many get a PIECE. The PIECE that each GUEST gets by it lies there then (NONE: none).");
        DUE.is("nothing", new ThreeTiers().picks(), 0);
        ThreeTiers none = Due.cake("tier a 1 by 1 high 5;");
        DUE.is("no guests", none.picks(), 0);
        DUE.is("nothing lies there", none.about(12), 0);
        ThreeTiers x = Due.cake("tier a 8 by 1 high 1;" + TextEdges.sixGuests());
        x.cut(0, 0, 1);
        x.cut(1, 0, 2);
        x.cut(2, 0, 3);
        // 1, 2, 3 and 2 cells.
        DUE.is("picks", x.picks(), 4);
        DUE.is("six lie there", x.about(12), 6);
        DUE.row("lies", x::lies, 2, 1, 3, 0, -1, -1, -2);
        x.give(2, 5);
        DUE.row("it lies there yet", x::lies, 2, 1, 3, 0, -1, -1, -2);
        DUE.is("picks", x.picks(), 3);
        DUE.row("lies", x::lies, 1, 3, 0, -1, -1, -1, -2);
        DUE.is("nothing is on plates by it", x.guest(0, 3), -1);
    }

    private static void orderMost() {
        DUE.sentence(0, "BEST ORDER: that by which the least WORTH that one of them has by it is most");
        // If f picks first, g is left what is worth 2 to him; if g does, f has 5.
        ThreeTiers x = Due.cake("tier a 1 by 1 high 9;tier b 1 by 1 high 5;guest f wants 1 sweet 5;guest g wants 1;worth area-(not sweet)*(area=5)*3;");
        DUE.is("order", x.order(), 5);
        DUE.row("lies", x::lies, 1, 0, -2);
        // The last of three has to be the first: only he can't do without the 9.
        ThreeTiers y = Due.cake("tier a 1 by 1 high 9;tier b 1 by 1 high 8;tier c 1 by 1 high 7;guest f wants 1;guest g wants 1;guest h wants 1 sweet 1;worth area-(sweet and area<9)*9;");
        DUE.is("order", y.order(), 7);
        DUE.row("lies", y::lies, 2, 0, 1, -2);
        y.give(0, 2);
        DUE.is("order of those without a piece", y.order(), 7);
        DUE.row("lies", y::lies, 0, 1, -2);
        DUE.is("two lie there", y.about(12), 2);
    }

    private static void orderFirst() {
        DUE.sentence(0, "of like ones the first (GUEST by GUEST).");
        ThreeTiers x = Due.cake("tier a 8 by 1 high 1;" + TextEdges.sixGuests() + "worth 4;");
        for (int i = 0; i < 5; i++) {
            x.cut(i, 0, 1);
        }
        DUE.is("order", x.order(), 4);
        DUE.row("lies", x::lies, 0, 1, 2, 3, 4, 5, -2);
        x.give(5, 1);
        DUE.is("order", x.order(), 4);
        DUE.row("lies", x::lies, 0, 2, 3, 4, 5, -2);
        // The third one must be ahead of the second, no more.
        ThreeTiers y = Due.cake("tier a 1 by 1 high 9;tier b 1 by 1 high 8;tier c 1 by 1 high 7;guest f wants 1;guest g wants 1;guest h wants 1 sweet 1;worth area-(sweet and area<8)*9;");
        DUE.is("order", y.order(), 7);
        DUE.row("lies", y::lies, 0, 2, 1, -2);
    }

    private static void orderLeast() {
        DUE.sentence(25, "BEST ORDER: the least WORTH");
        DUE.is("the least int", Due.cake("tier a 1 by 1 high 1;guest g wants 1;worth 8192*8192*32;").order(), LEAST);
        DUE.is("the most", Due.cake("tier a 1 by 1 high 1;guest g wants 1;worth 8192*8192*32-1;").order(), MOST);
        ThreeTiers x = Due.cake("tier a 1 by 1 high 1;tier b 1 by 1 high 2;guest f wants 1;guest g wants 1;worth 0-area;");
        DUE.is("below 0", x.order(), -2);
        DUE.row("lies", x::lies, 0, 1, -2);
        DUE.is("below 0 again", x.order(), -2);
        DUE.row("lies", x::lies, 0, 1, -2);
        ThreeTiers y = Due.cake("tier a 1 by 1 high 1;tier b 1 by 1 high 2;guest f wants 1;guest g wants 1;worth area+minute;");
        String before = Due.table(y);
        DUE.is("order", y.order(), 1);
        DUE.same("nothing is put on plates", Due.table(y), before);
    }

    private static void orderNone() {
        DUE.sentence(25, "-1000000000 if all GUESTS have PIECES, or there are none. The order lies there then (behind that number: nothing).");
        ThreeTiers x = Due.cake("tier a 1 by 1 high 1;tier b 1 by 1 high 1;guest f wants 1;guest g wants 1;");
        x.give(0, 1);
        DUE.is("one is without", x.order(), 1);
        DUE.is("one lies there", x.about(12), 1);
        DUE.row("lies", x::lies, 0, -2);
        x.give(1, 0);
        DUE.is("all have pieces", x.order(), NO_WORTH);
        DUE.is("nothing lies there", x.about(12), 0);
        DUE.row("lies", x::lies, -2, -2);
        ThreeTiers y = Due.cake("tier a 1 by 1 high 1;");
        DUE.is("no guests", y.order(), NO_WORTH);
        DUE.is("nothing lies there", y.about(12), 0);
        DUE.is("of nothing", new ThreeTiers().order(), NO_WORTH);
    }

    private static void bestFirst() {
        DUE.sentence(30, "The PIECE on no plate of most WORTH to a GUEST; of like ones the first");
        ThreeTiers x = Due.cake("tier a 1 by 1 high 5;tier b 1 by 1 high 7;tier c 1 by 1 high 7;guest f wants 999;guest g wants 1 sweet 1;worth area*(1-sweet*2);");
        DUE.row("best", x::best, 1, 0);
        x.give(1, 0);
        DUE.row("best on no plate, for one who has one too", x::best, 2, 0);
        x.give(0, 1);
        DUE.row("the last one", x::best, 2, 2);
        DUE.is("the least worth", Due.cake("tier a 1 by 1 high 1;guest g wants 1;worth 8192*8192*32;").best(0), 0);
        ThreeTiers y = Due.cake("tier a 1 by 1 high 1;tier b 1 by 1 high 2;guest g wants 1;worth 0-area;");
        DUE.is("of those below 0", y.best(0), 0);
    }

    private static void bestNone() {
        DUE.sentence(30, "NONE if there is none, or no such GUEST");
        ThreeTiers x = Due.cake("tier a 1 by 1 high 5;guest f wants 1;guest g wants 1;");
        DUE.all("best", -1, x::best, -1, 2, 6, LEAST, MOST);
        x.give(0, 0);
        DUE.row("none is left", x::best, -1, -1);
        DUE.is("no pieces", Due.cake("guest f wants 1;").best(0), -1);
        DUE.is("of nothing", new ThreeTiers().best(0), -1);
    }

    private static void liesNone() {
        DUE.sentence(37, "The i-th number of what lies there; -2 if there is none such");
        ThreeTiers x = Due.cake("tier a 1 by 1 high 5;" + TextEdges.sixGuests());
        DUE.all("nothing yet", -2, x::lies, 0, 1, -1, LEAST, MOST);
        x.picks();
        DUE.row("lies", x::lies, 0, -1, -1, -1, -1, -1);
        DUE.all("lies", -2, x::lies, -1, 6, 7, LEAST, MOST);
        x.give(0, 0);
        x.order();
        DUE.row("the latest lies there", x::lies, 1, 2, 3, 4, 5, -2, -2);
        Due.tell(x, "guest a wants 1;");
        DUE.all("nothing lies there", -2, x::lies, 0, 1, 5);
    }

    private PickingEdges() {
    }
}
