/** Promises 26 to 28 and 36: pieces alike, the fewest cuts for them, and the odds of who comes. */
final class GridEdges {
    private static final Due DUE = EdgesTest.DUE;
    private static final int LEAST = Integer.MIN_VALUE;
    private static final int MOST = Integer.MAX_VALUE;

    static void run() {
        gridAlike();
        gridFewest();
        gridIcing();
        gridLeastP();
        gridNone();
        gridOtherWhat();
        waysMany();
        waysRefuses();
        mostAtLeast();
        mostRefuses();
        comeOdds();
        comeLowest();
        comeRefuses();
    }

    private static void grid(ThreeTiers x, int tier, int n, int... want) {
        DUE.row("grid(" + tier + ", " + n + ")", what -> x.grid(tier, n, what), want);
    }

    private static void gridAlike() {
        DUE.sentence(0, "GRID of a TIER by n: so many like PIECES, p by q, p of them beside one another, each of as many COLUMNS, q behind one another, each of as many ROWS");
        ThreeTiers x = Due.cake("tier a 6 by 4 high 1;tier b 1 by 6 high 1;tier c 7 by 1 high 1;");
        grid(x, 0, 1, 1, 1, 0, 0);
        grid(x, 0, 24, 6, 4, 8, 2);
        grid(x, 1, 6, 1, 6, 5, 1);
        grid(x, 2, 7, 7, 1, 6, 1);
        // 5 and 7 divide neither side; 9 is 3 by 3, and 4 rows are not three alike.
        grid(x, 0, 5, -1, -1, -1, -1);
        grid(x, 0, 7, -1, -1, -1, -1);
        grid(x, 0, 9, -1, -1, -1, -1);
        grid(x, 1, 4, -1, -1, -1, -1);
        // By the TIER as it was told, however it is cut by now.
        x.cut(0, 0, 1);
        x.cut(0, 1, 1);
        grid(x, 0, 24, 6, 4, 8, 2);
    }

    private static void gridFewest() {
        DUE.sentence(0, "that with the fewest CUTS (p - 1 and q - 1 through the whole)");
        ThreeTiers x = Due.cake("tier a 6 by 4 high 1;tier b 8 by 8 high 1;");
        // 4: 1 by 4 three cuts, 2 by 2 two. 6: 6 by 1 five, 3 by 2 three. 12: 3 by 4 five, 6 by 2 six.
        grid(x, 0, 4, 2, 2, 2, 0);
        grid(x, 0, 6, 3, 2, 3, 2);
        grid(x, 0, 12, 3, 4, 5, 3);
        grid(x, 1, 16, 4, 4, 6, 4);
        grid(x, 1, 64, 8, 8, 14, 2);
    }

    private static void gridIcing() {
        DUE.sentence(0, "of like ones that of the least difference between the most ICING and the least");
        // 6 by 3 in three: rows have 8, 2 and 8, columns 7, 4 and 7.
        ThreeTiers x = Due.cake("tier a 6 by 3 high 1;tier b 3 by 6 high 1;tier c 8 by 4 high 1;");
        grid(x, 0, 3, 3, 1, 2, 3);
        grid(x, 1, 3, 1, 3, 2, 3);
        // 8 of 2 by 2 cells have 4 and 2, of 4 by 1 cells 5 and 1.
        grid(x, 2, 8, 4, 2, 4, 2);
    }

    private static void gridLeastP() {
        DUE.sentence(0, "then the least p.");
        ThreeTiers x = Due.cake("tier a 8 by 8 high 1;tier b 6 by 6 high 1;tier c 2 by 2 high 1;");
        grid(x, 0, 2, 1, 2, 1, 0);
        grid(x, 0, 8, 2, 4, 4, 4);
        grid(x, 0, 32, 4, 8, 10, 3);
        grid(x, 1, 6, 2, 3, 3, 3);
        grid(x, 2, 2, 1, 2, 1, 0);
    }

    private static void gridNone() {
        DUE.sentence(26, "NONE if there is none, or one can't be (n 1 .. 64)");
        ThreeTiers x = Due.cake("tier a 8 by 8 high 1;");
        for (int what = 0; what < 4; what++) {
            int asked = what;
            DUE.all("n", -1, n -> x.grid(0, n, asked), 0, -1, 3, 63, 65, 128, LEAST, MOST);
            DUE.all("tier", -1, tier -> x.grid(tier, 1, asked), -1, 1, 3, LEAST, MOST);
        }
        grid(x, 0, 1, 1, 1, 0, 0);
        grid(x, 0, 64, 8, 8, 14, 2);
        DUE.is("of nothing", new ThreeTiers().grid(0, 1, 0), -1);
    }

    private static void gridOtherWhat() {
        DUE.sentence(26, "GRID what 0: p, 1: q, 2: how many CUTS, 3: the difference of ICING");
        ThreeTiers x = Due.cake("tier a 8 by 2 high 1;");
        grid(x, 0, 8, 4, 2, 4, 1);
        DUE.all("grid", -1, what -> x.grid(0, 8, what), -1, 4, 5, LEAST, MOST);
    }

    private static void waysMany() {
        DUE.sentence(27, "How many pairs p, q there are for n like PIECES of a TIER (n 1 .. 64)");
        ThreeTiers x = Due.cake("tier a 6 by 4 high 1;tier b 8 by 8 high 1;tier c 1 by 1 high 1;");
        int[] sixByFour = {1, 2, 1, 2, 0, 2, 0, 1, 0, 0, 0, 2, 0, 0, 0, 0, 0, 0, 0, 0, 0, 0, 0, 1, 0};
        DUE.row("ways(0, 1 more than)", i -> x.ways(0, i + 1), sixByFour);
        int[] counts = {1, 2, 4, 8, 16, 32, 64};
        DUE.row("ways(1, 2 to the)", i -> x.ways(1, counts[i]), 1, 2, 3, 4, 3, 2, 1);
        DUE.is("none", x.ways(1, 63), 0);
        DUE.is("one", x.ways(2, 1), 1);
        DUE.is("none", x.ways(2, 2), 0);
        DUE.is("none", x.ways(2, 64), 0);
    }

    private static void waysRefuses() {
        DUE.sentence(27, "NONE if one can't be");
        ThreeTiers x = Due.cake("tier a 6 by 4 high 1;tier b 8 by 8 high 1;");
        DUE.all("n", -1, n -> x.ways(1, n), 0, -1, 65, 66, LEAST, MOST);
        DUE.all("tier", -1, tier -> x.ways(tier, 1), -1, 2, 3, LEAST, MOST);
        DUE.is("of nothing", new ThreeTiers().ways(0, 1), -1);
    }

    private static void mostAtLeast() {
        DUE.sentence(28, "The most like PIECES into which a TIER can be cut, each of an AREA of n at least (1 .. 999)");
        ThreeTiers x = Due.cake("tier a 6 by 4 high 2;tier b 7 by 5 high 1;tier c 8 by 8 high 9;");
        int[] areas = {1, 2, 3, 4, 5, 6, 7, 8, 9, 12, 13, 16, 17, 24, 25, 48};
        DUE.row("most of 6 by 4", i -> x.most(0, areas[i]), 24, 24, 12, 12, 8, 8, 6, 6, 4, 4, 3, 3, 2, 2, 1, 1);
        int[] odd = {1, 2, 5, 6, 7, 8, 35};
        DUE.row("most of 7 by 5", i -> x.most(1, odd[i]), 35, 7, 7, 5, 5, 1, 1);
        int[] high = {1, 9, 10, 18, 288, 289, 576};
        DUE.row("most of 8 by 8", i -> x.most(2, high[i]), 64, 64, 32, 32, 2, 1, 1);
        x.cut(0, 0, 1);
        DUE.is("as it was told", x.most(0, 48), 1);
    }

    private static void mostRefuses() {
        DUE.sentence(28, "NONE if the whole is less, or one can't be");
        ThreeTiers x = Due.cake("tier a 6 by 4 high 2;tier b 8 by 8 high 9;");
        DUE.all("the whole is less", -1, n -> x.most(0, n), 49, 50, 998, 999);
        DUE.all("the whole is less", -1, n -> x.most(1, n), 577, 999);
        DUE.all("n", -1, n -> x.most(0, n), 0, -1, 1000, 1001, LEAST, MOST);
        DUE.all("tier", -1, tier -> x.most(tier, 1), -1, 2, 3, LEAST, MOST);
        DUE.is("of nothing", new ThreeTiers().most(0, 1), -1);
    }

    private static void come(ThreeTiers x, int set, int upper, int lower) {
        DUE.row("come(" + set + ")", part -> x.come(set, part), upper, lower);
    }

    private static void comeOdds() {
        DUE.sentence(0, "COME of some GUESTS: the odds that all of these come, each by himself.");
        ThreeTiers x = Due.cake("guest a wants 1 comes 97;guest b wants 1 comes 89;guest c wants 1 comes 83;guest d wants 1 comes 79;guest e wants 1;guest f wants 1 comes 1;");
        come(x, 0, 1, 1);
        come(x, 1, 97, 100);
        come(x, 2, 89, 100);
        come(x, 3, 97 * 89, 10000);
        come(x, 7, 97 * 89 * 83, 1000000);
        come(x, 15, 97 * 89 * 83 * 79, 100000000);
        come(x, 16, 1, 1);
        come(x, 32, 1, 100);
        come(x, 60, 83 * 79, 1000000);
        DUE.is("of no guests at all", new ThreeTiers().come(0, 0), 1);
        DUE.is("of no guests at all", new ThreeTiers().come(0, 1), 1);
    }

    private static void comeLowest() {
        DUE.sentence(36, "in lowest terms (0 of 1)");
        ThreeTiers x = Due.cake("guest a wants 1 comes 50;guest b wants 1 comes 0;guest c wants 1 comes 75;guest d wants 1 comes 99;guest e wants 1 comes 40;guest f wants 1 comes 100;");
        come(x, 1, 1, 2);
        come(x, 2, 0, 1);
        come(x, 3, 0, 1);
        come(x, 15, 0, 1);
        come(x, 4, 3, 4);
        come(x, 5, 3, 8);
        come(x, 21, 3, 20);
        come(x, 32, 1, 1);
        come(x, 29, 297, 2000);
    }

    private static void comeRefuses() {
        DUE.sentence(36, "COME (as bits, 4 at most) the upper part (0), the lower part (1)");
        ThreeTiers x = Due.cake(TextEdges.sixGuests());
        DUE.all("four", 1, set -> x.come(set, 0), 15, 60, 51, 43);
        DUE.all("five or six", -1, set -> x.come(set, 0), 31, 62, 47, 55, 59, 61, 63);
        DUE.all("five or six", -1, set -> x.come(set, 1), 31, 62, 47, 55, 59, 61, 63);
        DUE.sentence(36, "NONE if one can't be");
        DUE.all("no such guests", -1, set -> x.come(set, 0), 64, 65, 128, -1, -2, LEAST, MOST, LEAST + 1, 1 << 30);
        DUE.all("part", -1, part -> x.come(1, part), -1, 2, LEAST, MOST);
        ThreeTiers y = Due.cake("guest a wants 1 comes 50;");
        DUE.all("no such guests", -1, set -> y.come(set, 1), 2, 3, 4, 32);
        DUE.is("of nothing", new ThreeTiers().come(1, 0), -1);
    }

    private GridEdges() {
    }
}
