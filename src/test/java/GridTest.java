/** Promises 26 to 28, 36 and 38 to 44: pieces alike, odds, and how a cake was cut long ago. */
public final class GridTest {
    private static final Due DUE = new Due("GridTest");

    public static void main(String[] args) {
        grids();
        mosts();
        odds();
        telling();
        times();
        fitting();
        asking();
        DUE.finish();
    }

    private static void grid(ThreeTiers x, int tier, int n, int[] want) {
        for (int what = 0; what < 4; what++) {
            DUE.is("grid(" + tier + ", " + n + ", " + what + ")", x.grid(tier, n, what), want[what]);
        }
    }

    private static void grids() {
        ThreeTiers x = Due.cake("tier a 6 by 4 high 1;tier b 8 by 8 high 9;tier c 1 by 6 high 1;");
        grid(x, 0, 1, new int[] {1, 1, 0, 0});
        grid(x, 0, 24, new int[] {6, 4, 8, 2});
        // 6 = 3 by 2 (3 cuts), 6 by 1 (5).
        grid(x, 0, 6, new int[] {3, 2, 3, 2});
        // 4 = 1 by 4 (3 cuts), 2 by 2 (2).
        grid(x, 0, 4, new int[] {2, 2, 2, 0});
        // 12 = 3 by 4 and 6 by 2: 5 and 6 cuts; pieces of 2 by 1: 3 at a corner, 0 inside.
        grid(x, 0, 12, new int[] {3, 4, 5, 3});
        // 8 = 2 by 4: 4 cuts; pieces of 3 by 1: 4 and 1.
        grid(x, 0, 8, new int[] {2, 4, 4, 3});
        grid(x, 0, 5, new int[] {-1, -1, -1, -1});
        grid(x, 1, 64, new int[] {8, 8, 14, 2});
        // 8: 2 by 4 and 4 by 2 alike; the least p.
        grid(x, 1, 8, new int[] {2, 4, 4, 4});
        grid(x, 2, 3, new int[] {1, 3, 2, 1});
        grid(x, 1, 63, new int[] {-1, -1, -1, -1});
        DUE.is("grid(0, 0, 0)", x.grid(0, 0, 0), -1);
        DUE.is("grid(0, -1, 0)", x.grid(0, -1, 0), -1);
        DUE.is("grid(0, 65, 0)", x.grid(0, 65, 0), -1);
        DUE.is("grid(3, 1, 0)", x.grid(3, 1, 0), -1);
        DUE.is("grid(-1, 1, 0)", x.grid(-1, 1, 0), -1);
        DUE.is("grid(0, 1, 4)", x.grid(0, 1, 4), -1);
        DUE.is("grid(0, 1, -1)", x.grid(0, 1, -1), -1);
        DUE.is("ways(0, 6)", x.ways(0, 6), 2);
        DUE.is("ways(0, 12)", x.ways(0, 12), 2);
        DUE.is("ways(0, 5)", x.ways(0, 5), 0);
        DUE.is("ways(1, 8)", x.ways(1, 8), 4);
        DUE.is("ways(1, 64)", x.ways(1, 64), 1);
        DUE.is("ways(0, 0)", x.ways(0, 0), -1);
        DUE.is("ways(0, 65)", x.ways(0, 65), -1);
        DUE.is("ways(3, 1)", x.ways(3, 1), -1);
        DUE.is("ways(-1, 1)", x.ways(-1, 1), -1);
        // Of as many cuts, that whose icings differ least, though its p is greater:
        // of 6 by 3 the rows have 8 and 2, the columns 7 and 4.
        x = Due.cake("tier a 6 by 6 high 1;tier b 6 by 3 high 1;");
        grid(x, 0, 6, new int[] {2, 3, 3, 3});
        grid(x, 1, 3, new int[] {3, 1, 2, 3});
        x.cut(0, 0, 1);
        grid(x, 0, 6, new int[] {2, 3, 3, 3});
        // 8 as 2 by 4 and 4 by 2, four cuts each.
        x = Due.cake("tier a 4 by 8 high 1;tier b 8 by 4 high 1;");
        grid(x, 0, 8, new int[] {2, 4, 4, 2});
        grid(x, 1, 8, new int[] {4, 2, 4, 2});
    }

    private static void mosts() {
        ThreeTiers x = Due.cake("tier a 6 by 4 high 2;tier b 7 by 5 high 1;");
        int[][] want = {{1, 24}, {2, 24}, {3, 12}, {4, 12}, {5, 8}, {6, 8}, {7, 6}, {8, 6}, {9, 4}, {12, 4}, {13, 3},
            {16, 3}, {17, 2}, {24, 2}, {25, 1}, {48, 1}, {49, -1}, {999, -1}, {1000, -1}, {0, -1}, {-1, -1}};
        for (int[] row : want) {
            DUE.is("most(0, " + row[0] + ")", x.most(0, row[0]), row[1]);
        }
        DUE.is("most(1, 1)", x.most(1, 1), 35);
        DUE.is("most(1, 2)", x.most(1, 2), 7);
        DUE.is("most(1, 6)", x.most(1, 6), 5);
        DUE.is("most(1, 8)", x.most(1, 8), 1);
        DUE.is("most(2, 1)", x.most(2, 1), -1);
        DUE.is("most(-1, 1)", x.most(-1, 1), -1);
    }

    private static void odds() {
        ThreeTiers x = Due.cake("guest a wants 1 comes 50;guest b wants 1 comes 33;guest c wants 1;guest d wants 1 comes 0;guest e wants 1 comes 99;guest f wants 1 comes 1;");
        int[][] want = {{0, 1, 1}, {1, 1, 2}, {2, 33, 100}, {3, 33, 200}, {4, 1, 1}, {8, 0, 1}, {15, 0, 1},
            {16, 99, 100}, {32, 1, 100}, {51, 3267, 2000000}, {50, 3267, 1000000}, {55, -1, -1}, {31, -1, -1},
            {63, -1, -1}, {64, -1, -1}, {-1, -1, -1}, {Integer.MIN_VALUE, -1, -1}};
        for (int[] row : want) {
            DUE.is("come(" + row[0] + ", 0)", x.come(row[0], 0), row[1]);
            DUE.is("come(" + row[0] + ", 1)", x.come(row[0], 1), row[2]);
        }
        DUE.is("come(1, 2)", x.come(1, 2), -1);
        DUE.is("come(1, -1)", x.come(1, -1), -1);
        x = Due.cake("guest a wants 1 comes 97;guest b wants 1 comes 89;guest c wants 1 comes 83;guest d wants 1 comes 79;");
        DUE.is("come(15, 0)", x.come(15, 0), 97 * 89 * 83 * 79);
        DUE.is("come(15, 1)", x.come(15, 1), 100000000);
        DUE.is("come(16, 0)", x.come(16, 0), -1);
    }

    private static void telling() {
        ThreeTiers x = new ThreeTiers();
        DUE.is("sized without tiers", x.sized(1, true), -1);
        DUE.is("rimmed without tiers", x.rimmed(1, true), -1);
        DUE.is("fits without tiers", x.fits(0), 0);
        DUE.is("sure without tiers", x.sure(0, 0), -1);
        DUE.is("ask without tiers", x.ask(0, 0), -1);
        x = Due.cake("tier a 2 by 2 high 1;");
        DUE.is("sized(0, true)", x.sized(0, true), -1);
        DUE.is("sized(65, true)", x.sized(65, true), -1);
        DUE.is("rimmed(-1, true)", x.rimmed(-1, true), -1);
        DUE.is("rimmed(33, true)", x.rimmed(33, true), -1);
        for (int i = 0; i < 15; i++) {
            DUE.is("sized(64, false)", x.sized(64, false), 2 * i);
            DUE.is("rimmed(32, false)", x.rimmed(32, false), 2 * i + 1);
        }
        DUE.is("the 31st", x.sized(1, true), -1);
        DUE.is("the 31st", x.rimmed(1, true), -1);
        DUE.is("about(8)", x.about(8), 30);
        DUE.is("untell(30)", x.untell(30), false);
        DUE.is("untell(-1)", x.untell(-1), false);
        DUE.is("untell(29)", x.untell(29), true);
        DUE.is("untell(29)", x.untell(29), false);
        DUE.is("still 30", x.sized(1, true), -1);
        DUE.is("fits(0)", x.fits(0), 4);
    }

    private static void times() {
        ThreeTiers x = Due.cake("tier a 4 by 2 high 3;");
        DUE.is("later(-1)", x.later(-1), -1);
        DUE.is("later(1001)", x.later(1001), -1);
        DUE.is("later(0)", x.later(0), 0);
        DUE.is("later(5)", x.later(5), 5);
        x.sized(2, true);
        DUE.is("fits(4)", x.fits(4), 6);
        DUE.is("fits(5)", x.fits(5), 2);
        x.later(5);
        x.rimmed(3, true);
        DUE.is("fits(9)", x.fits(9), 2);
        DUE.is("fits(10)", x.fits(10), 1);
        x.later(5);
        x.untell(0);
        DUE.is("fits(14)", x.fits(14), 1);
        DUE.is("fits(15)", x.fits(15), 1);
        x.untell(1);
        DUE.is("fits(14)", x.fits(14), 1);
        DUE.is("fits(15)", x.fits(15), 6);
        x.sized(8, true);
        x.untell(2);
        DUE.is("told and untold at once", x.fits(15), 6);
        DUE.is("fits(2000000000)", x.fits(2000000000), 6);
        DUE.is("fits(-5)", x.fits(-5), 6);
        for (int i = 0; i < 99; i++) {
            x.later(1000);
        }
        DUE.is("later(985)", x.later(985), 100000);
        DUE.is("later(1)", x.later(1), -1);
        DUE.is("later(0)", x.later(0), 100000);
        DUE.is("about(9)", x.about(9), 100000);
    }

    private static void fitting() {
        ThreeTiers x = Due.cake("tier a 6 by 4 high 3;tier b 1 by 1 high 1;");
        DUE.is("fits(0)", x.fits(0), 12);
        DUE.is("sure(0, 0)", x.sure(0, 0), -2);
        x.sized(4, true);
        // 4 cells: 6 by 1, 3 by 2: pieces 1 by 4 and 2 by 2.
        DUE.is("fits(0)", x.fits(0), 2);
        DUE.is("sure(0, 0)", x.sure(0, 0), -2);
        DUE.is("sure(1, 0)", x.sure(1, 0), -2);
        x.rimmed(6, false);
        DUE.is("fits(0)", x.fits(0), 1);
        DUE.is("sure(0, 0)", x.sure(0, 0), 3);
        DUE.is("sure(1, 0)", x.sure(1, 0), 2);
        DUE.is("sure(2, 0)", x.sure(2, 0), -1);
        DUE.is("sure(-1, 0)", x.sure(-1, 0), -1);
        x.sized(4, false);
        DUE.is("fits(0)", x.fits(0), 0);
        DUE.is("sure(0, 0)", x.sure(0, 0), -1);
        DUE.is("ask(0, 0)", x.ask(0, 0), -1);
        x = Due.cake("tier a 6 by 4 high 3;");
        x.rimmed(0, true);
        // No icing: inner pieces: p 3 or 6, q 4 only.
        DUE.is("fits(0)", x.fits(0), 2);
        DUE.is("sure(0, 0)", x.sure(0, 0), -2);
        DUE.is("sure(1, 0)", x.sure(1, 0), 4);
    }

    private static void asking() {
        ThreeTiers x = Due.cake("tier a 2 by 2 high 3;");
        // The whole has 8, a half of it 4 either way, a quarter 2.
        DUE.is("ask(0, 0)", x.ask(0, 0), 4);
        DUE.is("ask(1, 0)", x.ask(1, 0), 2);
        DUE.is("ask(2, 0)", x.ask(2, 0), -1);
        DUE.is("ask(-1, 0)", x.ask(-1, 0), -1);
        x.rimmed(4, true);
        // Both are alike by icing: whatever is asked leaves both.
        DUE.is("ask(0, 0)", x.ask(0, 0), 0);
        DUE.is("ask(1, 0)", x.ask(1, 0), 2);
        DUE.is("ask as known before", x.ask(1, -1), 2);
        DUE.is("ask as known before", x.ask(0, -1), 4);
    }
}
