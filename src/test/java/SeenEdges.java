/** Promises 38 to 44: how a cake was cut long ago, by what was seen of it. */
final class SeenEdges {
    private static final Due DUE = EdgesTest.DUE;
    private static final int LEAST = Integer.MIN_VALUE;
    private static final int MOST = Integer.MAX_VALUE;

    static void run() {
        sizedNumber();
        sizedRefuses();
        rimmedNumber();
        rimmedRefuses();
        thirtySeen();
        untellOnce();
        untellRefuses();
        laterBounds();
        laterRefuses();
        countsAtK();
        fitsAll();
        wasOrWasNot();
        fitsFirstTier();
        fitsNone();
        sureSame();
        sureNone();
        askFewest();
        askLeast();
        askNone();
    }

    private static void sizedNumber() {
        DUE.sentence(38, "That there was a PIECE of so many CELLS (1 .. 64), or was not: its number");
        ThreeTiers x = Due.cake("tier a 8 by 8 high 9;");
        DUE.is("fits", x.fits(0), 16);
        DUE.is("of 64", x.sized(64, true), 0);
        DUE.is("fits", x.fits(0), 1);
        x.untell(0);
        DUE.is("of 1", x.sized(1, true), 1);
        DUE.is("fits", x.fits(0), 1);
        DUE.is("the p", x.sure(0, 0), 8);
        x.untell(1);
        DUE.is("none of 1", x.sized(1, false), 2);
        DUE.is("fits", x.fits(0), 15);
        DUE.is("none of 64", x.sized(64, false), 3);
        DUE.is("fits", x.fits(0), 14);
        DUE.is("one of 8", x.sized(8, true), 4);
        DUE.is("fits", x.fits(0), 4);
        // CELLS, not AREA.
        ThreeTiers y = Due.cake("tier a 2 by 1 high 9;");
        y.sized(2, true);
        DUE.is("fits", y.fits(0), 1);
    }

    private static void sizedRefuses() {
        DUE.sentence(38, "NONE, doing nothing, if one can't be, or there are 30, or no TIERS");
        ThreeTiers x = Due.cake("tier a 8 by 8 high 9;");
        DUE.unchanged(x, () -> {
            DUE.all("sized", -1, cells -> x.sized(cells, true), 0, -1, 65, 66, LEAST, MOST);
            DUE.all("sized", -1, cells -> x.sized(cells, false), 0, -1, 65, 66, LEAST, MOST);
        });
        ThreeTiers empty = Due.cake("guest g wants 1;");
        DUE.all("without tiers", -1, cells -> empty.sized(cells, true), 1, 64);
        DUE.is("nothing is seen", empty.about(8), 0);
        for (int i = 0; i < 30; i++) {
            DUE.is("sized", x.sized(i + 1, false), i);
        }
        DUE.unchanged(x, () -> DUE.is("the 31st", x.sized(64, true), -1));
    }

    private static void rimmedNumber() {
        DUE.sentence(39, "That there was one of so much ICING (0 .. 32), or was not: its number");
        ThreeTiers x = Due.cake("tier a 8 by 8 high 1;");
        DUE.is("of 32", x.rimmed(32, true), 0);
        DUE.is("fits", x.fits(0), 1);
        x.untell(0);
        DUE.is("of 0", x.rimmed(0, true), 1);
        // Those with a piece inside: 4 or 8 both ways.
        DUE.is("fits", x.fits(0), 4);
        x.untell(1);
        DUE.is("none of 32", x.rimmed(32, false), 2);
        DUE.is("fits", x.fits(0), 15);
        DUE.is("none of 0", x.rimmed(0, false), 3);
        DUE.is("fits", x.fits(0), 11);
    }

    private static void rimmedRefuses() {
        DUE.sentence(39, "NONE likewise");
        ThreeTiers x = Due.cake("tier a 8 by 8 high 9;");
        DUE.unchanged(x, () -> {
            DUE.all("rimmed", -1, icing -> x.rimmed(icing, true), -1, -2, 33, 34, 64, LEAST, MOST);
            DUE.all("rimmed", -1, icing -> x.rimmed(icing, false), -1, -2, 33, 34, 64, LEAST, MOST);
        });
        ThreeTiers empty = new ThreeTiers();
        DUE.all("without tiers", -1, icing -> empty.rimmed(icing, true), 0, 32);
        DUE.is("nothing is seen", empty.about(8), 0);
        for (int i = 0; i < 30; i++) {
            DUE.is("rimmed", x.rimmed(31, false), i);
        }
        DUE.unchanged(x, () -> DUE.is("the 31st", x.rimmed(0, true), -1));
    }

    private static void thirtySeen() {
        DUE.sentence(0, "SEEN, 30 at most, is TOLD at a TIME (0 at first, goes on), UNTOLD at a later one or the same");
        ThreeTiers x = Due.cake("tier a 2 by 2 high 1;");
        DUE.is("the TIME", x.about(9), 0);
        for (int i = 0; i < 15; i++) {
            DUE.is("sized", x.sized(64, false), 2 * i);
            DUE.is("rimmed", x.rimmed(32, false), 2 * i + 1);
        }
        DUE.is("thirty", x.about(8), 30);
        x.untell(0);
        DUE.is("what is untold was told", x.sized(1, true), -1);
        DUE.is("what is untold was told", x.rimmed(1, true), -1);
        DUE.is("thirty", x.about(8), 30);
        // A new cake forgets them all.
        Due.tell(x, "tier a 2 by 2 high 1;");
        DUE.is("anew", x.sized(1, true), 0);
    }

    private static void untellOnce() {
        DUE.sentence(40, "It is UNTOLD: true; false if it is so already");
        ThreeTiers x = Due.cake("tier a 4 by 1 high 1;");
        x.sized(4, true);
        x.sized(2, false);
        DUE.is("untell(0)", x.untell(0), true);
        DUE.is("fits", x.fits(0), 2);
        DUE.is("untell(0) again", x.untell(0), false);
        x.later(5);
        DUE.is("untell(0) later", x.untell(0), false);
        DUE.is("as untold first", x.fits(0), 2);
        DUE.is("untell(1)", x.untell(1), true);
        DUE.is("fits before", x.fits(4), 2);
        DUE.is("fits now", x.fits(5), 3);
    }

    private static void untellRefuses() {
        DUE.sentence(40, "or there is none such");
        ThreeTiers x = Due.cake("tier a 4 by 1 high 1;");
        DUE.is("nothing seen", x.untell(0), false);
        x.sized(4, true);
        DUE.unchanged(x, () -> {
            for (int seen : new int[] {-1, 1, 2, 29, 30, LEAST, MOST}) {
                DUE.is("untell(" + seen + ")", x.untell(seen), false);
            }
        });
        DUE.is("untell(0)", x.untell(0), true);
        x.rimmed(1, true);
        Due.tell(x, "tier a 4 by 1 high 1;");
        DUE.is("of another cake", x.untell(1), false);
        for (int i = 0; i < 30; i++) {
            x.sized(4, true);
        }
        DUE.is("untell(30)", x.untell(30), false);
        DUE.is("untell(29)", x.untell(29), true);
    }

    private static void laterBounds() {
        DUE.sentence(41, "So much later (0 .. 1000): the TIME");
        ThreeTiers x = new ThreeTiers();
        DUE.is("later(0)", x.later(0), 0);
        DUE.is("later(1)", x.later(1), 1);
        DUE.is("later(1000)", x.later(1000), 1001);
        DUE.is("later(0)", x.later(0), 1001);
        DUE.is("about(9)", x.about(9), 1001);
    }

    private static void laterRefuses() {
        DUE.sentence(41, "NONE, doing nothing, for another number, or if it would be above 100,000");
        ThreeTiers x = new ThreeTiers();
        DUE.all("later", -1, x::later, -1, -2, 1001, 1002, 100000, LEAST, MOST);
        DUE.is("the TIME", x.about(9), 0);
        for (int i = 1; i < 100; i++) {
            DUE.is("later(1000)", x.later(1000), 1000 * i);
        }
        x.later(1);
        DUE.is("later(1000) at 99,001", x.later(1000), -1);
        DUE.is("the TIME", x.about(9), 99001);
        DUE.is("later(999)", x.later(999), 100000);
        DUE.all("later at 100,000", -1, x::later, 1, 2, 1000, -1, MOST);
        DUE.is("later(0)", x.later(0), 100000);
        x.cake();
        DUE.is("it stays with a new cake", x.about(9), 100000);
    }

    private static void countsAtK() {
        DUE.sentence(0, "As known at k that counts that was TOLD at k or before, not UNTOLD at k or before.");
        ThreeTiers x = Due.cake("tier a 4 by 2 high 3;");
        x.later(5);
        x.sized(2, true);
        x.later(5);
        x.rimmed(3, true);
        x.later(5);
        x.untell(0);
        x.later(5);
        x.untell(1);
        x.sized(1, true);
        x.untell(2);
        // Of six pairs 2 by 2 and 4 by 1 have pieces of 2 cells, and 2 by 2 alone has some of ICING 3.
        int[] times = {LEAST, -1, 0, 4, 5, 9, 10, 14, 15, 19, 20, 21, 100000, MOST};
        DUE.row("fits", i -> x.fits(times[i]), 6, 6, 6, 6, 2, 2, 1, 1, 1, 1, 6, 6, 6, 6);
        DUE.row("sure", i -> x.sure(0, times[i]), -2, -2, -2, -2, -2, -2, 2, 2, 2, 2, -2, -2, -2, -2);
        DUE.row("ask", i -> x.ask(1, times[i]), 4, 4, 4, 4, 1, 1, 1, 1, 1, 1, 4, 4, 4, 4);
    }

    private static void fitsAll() {
        DUE.sentence(0, "FITS: pairs p, q by which all that counts is so.");
        ThreeTiers x = Due.cake("tier a 6 by 4 high 3;");
        DUE.is("all", x.fits(0), 12);
        x.sized(4, true);
        DUE.is("6 by 1 and 3 by 2", x.fits(0), 2);
        x.rimmed(6, false);
        DUE.is("3 by 2", x.fits(0), 1);
        x.rimmed(4, true);
        DUE.is("corners of 4", x.fits(0), 1);
        x.rimmed(2, true);
        DUE.is("and others of 2", x.fits(0), 1);
        x.rimmed(3, true);
        DUE.is("none", x.fits(0), 0);
    }

    private static void wasOrWasNot() {
        DUE.sentence(0, "that there was a PIECE of so many CELLS, or was not; that there was one of so much ICING, or was not.");
        // Of 4 by 2: 8, 4, 4, 2, 2 and 1 cells.
        int[] cells = {1, 2, 3, 4, 5, 8, 64};
        int[] with = {1, 2, 0, 2, 0, 1, 0};
        // ICING 12; 6 and 6; 3; 4 and 2; 2 and 1.
        int[] icings = {0, 1, 2, 3, 4, 5, 6, 12, 32};
        int[] having = {0, 1, 2, 1, 1, 0, 2, 1, 0};
        for (int i = 0; i < cells.length; i++) {
            DUE.is("was of " + cells[i], fitsWith(true, cells[i], true), with[i]);
            DUE.is("was not of " + cells[i], fitsWith(true, cells[i], false), 6 - with[i]);
        }
        for (int i = 0; i < icings.length; i++) {
            DUE.is("was of ICING " + icings[i], fitsWith(false, icings[i], true), having[i]);
            DUE.is("was not of ICING " + icings[i], fitsWith(false, icings[i], false), 6 - having[i]);
        }
    }

    private static int fitsWith(boolean sized, int number, boolean is) {
        ThreeTiers x = Due.cake("tier a 4 by 2 high 3;");
        DUE.is("told", sized ? x.sized(number, is) : x.rimmed(number, is), 0);
        return x.fits(0);
    }

    private static void fitsFirstTier() {
        DUE.sentence(0, "of a cake like the first TIER, cut long ago into like PIECES, p by q");
        ThreeTiers x = Due.cake("tier a 1 by 1 high 3;tier b 8 by 8 high 1;");
        DUE.is("the first alone", x.fits(0), 1);
        DUE.row("one pair", what -> x.sure(what, 0), 1, 1);
        ThreeTiers y = Due.cake("tier a 8 by 6 high 3;tier b 1 by 1 high 1;");
        DUE.is("4 times 4", y.fits(0), 16);
        y.cut(0, 0, 3);
        DUE.is("however it is cut now", y.fits(0), 16);
        DUE.is("7 by 5", Due.cake("tier a 7 by 5 high 3;").fits(0), 4);
    }

    private static void fitsNone() {
        DUE.sentence(42, "FITS: how many (0 without TIERS)");
        DUE.all("of nothing", 0, new ThreeTiers()::fits, 0, 1, -1, LEAST, MOST);
        DUE.is("guests alone", Due.cake("guest g wants 1;").fits(0), 0);
        // Nothing is left of the tiers of a cake before.
        ThreeTiers gone = Due.cake("tier a 2 by 2 high 1;");
        gone.cake();
        DUE.is("without tiers again", gone.fits(0), 0);
        DUE.is("sure", gone.sure(0, 0), -1);
        DUE.is("ask", gone.ask(0, 0), -1);
        ThreeTiers x = Due.cake("tier a 2 by 2 high 1;");
        x.sized(3, true);
        DUE.is("none", x.fits(0), 0);
        DUE.is("before", x.fits(-1), 4);
    }

    private static void sureSame() {
        DUE.sentence(43, "The p (what 0), q (1), if it is the same in all FITS; -2 if not");
        ThreeTiers x = Due.cake("tier a 6 by 4 high 3;");
        DUE.row("of all", what -> x.sure(what, 0), -2, -2);
        x.rimmed(0, true);
        DUE.row("with a piece inside: 3 by 4, 6 by 4", what -> x.sure(what, 0), -2, 4);
        x.sized(2, true);
        DUE.row("3 by 4", what -> x.sure(what, 0), 3, 4);
        ThreeTiers y = Due.cake("tier a 4 by 6 high 3;");
        y.rimmed(0, true);
        DUE.row("the other way", what -> y.sure(what, 0), 4, -2);
        ThreeTiers z = Due.cake("tier a 1 by 4 high 3;");
        DUE.row("p alone", what -> z.sure(what, 0), 1, -2);
        // Left are 1 by 2, 2 by 1 and 4 by 2: the first and the last have one q, that between has another.
        ThreeTiers w = Due.cake("tier a 4 by 2 high 3;");
        w.sized(8, false);
        w.sized(2, false);
        DUE.is("fits", w.fits(0), 3);
        DUE.row("not the same in all", what -> w.sure(what, 0), -2, -2);
    }

    private static void sureNone() {
        DUE.sentence(43, "NONE if there are none, or for another what");
        ThreeTiers x = Due.cake("tier a 2 by 2 high 1;");
        DUE.all("what", -1, what -> x.sure(what, 0), -1, 2, 3, LEAST, MOST);
        x.sized(3, true);
        DUE.row("none", what -> x.sure(what, 0), -1, -1, -1);
        DUE.is("as known before", x.sure(0, -1), -2);
        DUE.is("of nothing", new ThreeTiers().sure(0, 0), -1);
    }

    private static void askFewest() {
        DUE.sentence(0, "ASK: the ICING (0 .. 32) of which to hear whether there was such a PIECE would leave the fewest of these at the most");
        // The whole has 8, a half of it 4 either way, a quarter 2.
        ThreeTiers x = Due.cake("tier a 2 by 2 high 3;");
        DUE.row("ask", what -> x.ask(what, 0), 4, 2);
        ThreeTiers y = Due.cake("tier a 8 by 8 high 1;");
        y.rimmed(32, true);
        DUE.row("one is left", what -> y.ask(what, 0), 0, 1);
        DUE.row("of all sixteen half have some of ICING 2", what -> y.ask(what, -1), 2, 8);
        ThreeTiers z = Due.cake("tier a 4 by 2 high 3;");
        z.sized(2, true);
        DUE.row("ask", what -> z.ask(what, 0), 2, 1);
        ThreeTiers w = Due.cake("tier a 7 by 7 high 3;");
        // The whole has 28, sevenths either way 9 and 2, one cell 2, 1 or 0.
        DUE.row("ask", what -> w.ask(what, 0), 9, 2);
    }

    private static void askLeast() {
        DUE.sentence(0, "of like ones the least.");
        ThreeTiers x = Due.cake("tier a 2 by 2 high 3;");
        x.rimmed(4, true);
        DUE.row("whatever is asked", what -> x.ask(what, 0), 0, 2);
        // The whole has 18, halves 9, quarters 5 and 4, eighths 3 and 2: each leaves three, the least is 2.
        ThreeTiers y = Due.cake("tier a 8 by 1 high 3;");
        DUE.row("ask", what -> y.ask(what, 0), 2, 3);
        ThreeTiers z = Due.cake("tier a 8 by 8 high 3;");
        z.sized(64, true);
        DUE.is("0 of all", z.ask(0, 0), 0);
    }

    private static void askNone() {
        DUE.sentence(44, "ASK what 0: the ICING, 1: how many are left at the most; NONE if none FITS, or for another what");
        ThreeTiers x = Due.cake("tier a 2 by 2 high 1;");
        DUE.all("what", -1, what -> x.ask(what, 0), -1, 2, 3, LEAST, MOST);
        x.sized(3, true);
        DUE.row("none", what -> x.ask(what, 0), -1, -1, -1);
        DUE.row("as known before", what -> x.ask(what, -1), 4, 2, -1);
        DUE.is("of nothing", new ThreeTiers().ask(0, 0), -1);
    }

    private SeenEdges() {
    }
}
