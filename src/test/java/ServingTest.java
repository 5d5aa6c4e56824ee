/** Promises 16 to 25, 29, 30, 32, 33 and 37: who is served, who envies, who cuts and who picks. */
public final class ServingTest {
    private static final Due DUE = new Due("ServingTest");

    public static void main(String[] args) {
        serving();
        nextCut();
        rooms();
        envy();
        calming();
        halving();
        picking();
        ordering();
        DUE.finish();
    }

    private static void serving() {
        ThreeTiers x = Due.cake("tier a 6 by 1 high 2;tier b 1 by 1 high 3;guest g wants 12;guest h wants 0;guest i wants 13;guest j wants 3;");
        DUE.is("feeds(0)", x.feeds(0), 1);
        DUE.is("feeds(1)", x.feeds(1), 3);
        DUE.is("feeds(2)", x.feeds(2), 0);
        DUE.is("feeds(3)", x.feeds(3), 3);
        DUE.is("feeds(4)", x.feeds(4), -1);
        DUE.is("feeds(-1)", x.feeds(-1), -1);
        DUE.is("served()", x.served(), 2);
        DUE.is("hungry()", x.hungry(), 4);
        DUE.is("law(-10)", x.law(-10), 2);
        DUE.is("law(1)", x.law(1), 2);
        DUE.is("law(4)", x.law(4), 1);
        DUE.is("law(12)", x.law(12), 1);
        DUE.is("law(13)", x.law(13), 0);
        DUE.is("law(99)", x.law(99), 0);
        DUE.is("law(-99)", x.law(-99), 2);
        DUE.is("law(100)", x.law(100), -1);
        DUE.is("law(-100)", x.law(-100), -1);
        x.give(0, 0);
        DUE.is("feeds(0) with a piece", x.feeds(0), 0);
        DUE.is("feeds(3)", x.feeds(3), 2);
        DUE.is("hungry()", x.hungry(), 4);
        DUE.is("served()", x.served(), 1);
        x.give(1, 1);
        DUE.is("hungry()", x.hungry(), 12);
        DUE.is("served()", x.served(), 0);
    }

    private static void nextCut() {
        ThreeTiers x = Due.cake("tier a 3 by 3 high 1;guest g wants 2;guest h wants 4;guest i wants 3;");
        // Columns 1 | 2: 3 and 6 serve two; behind 2: 6 and 3; the first counts.
        int[] want = {0, 0, 1, 2};
        for (int what = 0; what < 4; what++) {
            DUE.is("next(" + what + ")", x.next(what), want[what]);
        }
        DUE.is("next(-1)", x.next(-1), -1);
        DUE.is("next(4)", x.next(4), -1);
        // Rows alone can be cut, and a cut that serves fewer is a cut.
        x = Due.cake("tier a 1 by 2 high 1;guest g wants 2;");
        want = new int[] {0, 1, 1, 0};
        for (int what = 0; what < 4; what++) {
            DUE.is("next(" + what + ")", x.next(what), want[what]);
        }
        x = Due.cake("tier a 1 by 1 high 1;tier b 5 by 2 high 1;guest g wants 8;guest h wants 2;guest i wants 1;");
        want = new int[] {1, 0, 1, 3};
        for (int what = 0; what < 4; what++) {
            DUE.is("next(" + what + ")", x.next(what), want[what]);
        }
        x.give(1, 0);
        DUE.is("next on no plate", x.next(0), -1);
        DUE.is("next without tiers", Due.cake("guest g wants 1;").next(0), -1);
        x = Due.cake("tier a 2 by 5 high 1;guest g wants 8;guest h wants 2;");
        DUE.is("rows serve more", x.next(1) * 10 + x.next(2), 11);
    }

    private static void rooms() {
        ThreeTiers x = Due.cake("tier a 6 by 1 high 2;tier b 1 by 1 high 3;guest g wants 12;guest h wants 0;guest i wants 13;guest j wants 3;");
        DUE.is("room(0)", x.room(0), 0);
        DUE.is("room(1)", x.room(1), 12);
        DUE.is("room(2)", x.room(2), -1);
        DUE.is("room(3)", x.room(3), 9);
        DUE.is("room(4)", x.room(4), -1);
        DUE.is("room(-1)", x.room(-1), -1);
        x.give(1, 3);
        DUE.is("room(3) with a piece", x.room(3), -1);
        DUE.is("room(1)", x.room(1), 12);
        DUE.is("room without pieces", Due.cake("guest g wants 0;").room(0), -1);
        // Two pieces of 4 and one of 9: who wants 3 must leave the 9 to who wants 5.
        x = Due.cake("tier a 2 by 2 high 1;tier b 2 by 2 high 1;tier c 3 by 3 high 1;guest g wants 3;guest h wants 5;guest i wants 1;");
        DUE.is("room(0)", x.room(0), 1);
        DUE.is("room(1)", x.room(1), 4);
        DUE.is("room(2)", x.room(2), 3);
    }

    private static void envy() {
        ThreeTiers x = Due.cake("tier a 4 by 1 high 1;guest g wants 1 sweet 0;guest h wants 1 sweet 1;guest i wants 1 sweet 9;worth area*(1-sweet/5*2);");
        x.cut(0, 0, 3);
        DUE.is("quarrel()", x.quarrel(), 0);
        x.give(0, 0);
        x.give(1, 1);
        DUE.is("envies(0)", x.envies(0), 0);
        DUE.is("envies(1)", x.envies(1), 1);
        // To the third one all is worth less than 0.
        DUE.is("envies(2)", x.envies(2), 0);
        DUE.is("envies(3)", x.envies(3), -1);
        DUE.is("envies(-1)", x.envies(-1), -1);
        DUE.is("quarrel()", x.quarrel(), 1);
        x.back(1);
        x.give(1, 2);
        DUE.is("envies(0)", x.envies(0), 0);
        DUE.is("envies(1)", x.envies(1), 5);
        DUE.is("envies(2)", x.envies(2), 0);
        DUE.is("quarrel()", x.quarrel(), 2);
    }

    private static void calming() {
        // One wants much, one little: worth is -area for who has a sweet tooth.
        ThreeTiers x = Due.cake("tier a 6 by 1 high 1;guest g wants 1 sweet 1;guest h wants 1;guest i wants 1;worth area*(1-sweet*2);");
        x.cut(0, 0, 3);
        x.cut(1, 0, 1);
        x.give(0, 0);
        DUE.is("calm with one", x.calm(0), -1);
        x.give(1, 1);
        x.give(2, 2);
        // Now: g (3) envies h (1), i (2); h (1) envies g, i; i (2) envies g: 5.
        DUE.is("quarrel()", x.quarrel(), 5);
        // g and h exchange: h 3, g 1, i 2: i envies h: 1. Others leave more.
        DUE.is("calm(0)", x.calm(0), 0);
        DUE.is("calm(1)", x.calm(1), 1);
        DUE.is("calm(2)", x.calm(2), 1);
        DUE.is("calm(3)", x.calm(3), -1);
        DUE.is("calm(-1)", x.calm(-1), -1);
        DUE.is("nothing is done", x.guest(0, 3), 0);
        x.exchange(0, 1);
        DUE.is("calm is none", x.calm(2), -1);
        DUE.is("quarrel()", x.quarrel(), 1);
        // One without a piece has no part in it, but his envies count.
        x = Due.cake("tier a 6 by 1 high 1;guest g wants 1;guest h wants 1;guest i wants 1 sweet 1;worth area*(1-sweet*2);");
        x.cut(0, 0, 5);
        x.give(0, 2);
        x.give(1, 1);
        DUE.is("quarrel()", x.quarrel(), 4);
        DUE.is("calm(0)", x.calm(0), 1);
        DUE.is("calm(1)", x.calm(1), 2);
        DUE.is("calm(2)", x.calm(2), 2);
    }

    private static void halving() {
        ThreeTiers x = Due.cake("tier a 3 by 2 high 1;tier b 1 by 1 high 1;guest g wants 1 sweet 1;guest h wants 1;worth area+icing*sweet*10;pace 50;slip 100;");
        // h picks by area: columns leave g 2 and icing 4, rows leave him 3 and icing 5.
        DUE.is("share(0, 0, 1)", x.share(0, 0, 1), 53);
        DUE.is("halve way", x.halve(0, 0, 1, 0), 1);
        DUE.is("halve behind", x.halve(0, 0, 1, 1), 1);
        DUE.is("halve picked", x.halve(0, 0, 1, 2), 0);
        DUE.is("halve other what", x.halve(0, 0, 1, 3), -1);
        DUE.is("halve other what", x.halve(0, 0, 1, -1), -1);
        // g picks by icing first: columns leave h 2, rows 3.
        DUE.is("share(0, 1, 0)", x.share(0, 1, 0), 3);
        DUE.is("halve way", x.halve(0, 1, 0, 0), 1);
        DUE.is("halve no cut", x.halve(1, 0, 1, 0), -1);
        DUE.is("share no cut", x.share(1, 0, 1), -1000000000);
        DUE.is("halve both one", x.halve(0, 1, 1, 0), -1);
        DUE.is("share both one", x.share(0, 1, 1), -1000000000);
        DUE.is("halve(2, ..)", x.halve(2, 0, 1, 0), -1);
        DUE.is("halve(-1, ..)", x.halve(-1, 0, 1, 0), -1);
        DUE.is("halve(0, 2, ..)", x.halve(0, 2, 1, 0), -1);
        DUE.is("halve(0, 0, -1, ..)", x.halve(0, 0, -1, 0), -1);
        DUE.is("share(0, 0, 2)", x.share(0, 0, 2), -1000000000);
        DUE.is("nothing is done", x.about(2) + x.about(3) + x.about(5), 2);
        x.give(1, 0);
        DUE.is("one who has a piece may halve", x.share(0, 0, 1), 53);
        x.back(0);
        x.give(0, 0);
        DUE.is("halve on a plate", x.halve(0, 0, 1, 0), -1);
        // The second one picks what lies behind, where it is worth more.
        x = Due.cake("tier a 4 by 1 high 1;guest g wants 1;guest h wants 1;worth area*area;");
        DUE.is("share", x.share(0, 0, 1), 4);
        DUE.is("halve", x.halve(0, 0, 1, 1) * 10 + x.halve(0, 0, 1, 2), 20);
        x = Due.cake("tier a 3 by 1 high 1;guest g wants 1;guest h wants 1;");
        DUE.is("share", x.share(0, 0, 1), 1);
        DUE.is("halve", x.halve(0, 0, 1, 1) * 10 + x.halve(0, 0, 1, 2), 11);
    }

    private static void picking() {
        ThreeTiers x = Due.cake("tier a 4 by 1 high 1;guest g wants 99 sweet 1;guest h wants 1;guest i wants 1;guest j wants 1;worth area*(1-sweet*2);");
        x.cut(0, 0, 1);
        x.cut(1, 0, 1);
        // Pieces 1, 1, 2; g likes little best, the first of like ones.
        DUE.is("picks()", x.picks(), 3);
        int[] want = {0, 2, 1, -1};
        for (int i = 0; i < 4; i++) {
            DUE.is("lies(" + i + ")", x.lies(i), want[i]);
        }
        DUE.is("lies(4)", x.lies(4), -2);
        DUE.is("lies(-1)", x.lies(-1), -2);
        DUE.is("about(12)", x.about(12), 4);
        DUE.is("best(0)", x.best(0), 0);
        DUE.is("best(1)", x.best(1), 2);
        DUE.is("best(4)", x.best(4), -1);
        DUE.is("best(-1)", x.best(-1), -1);
        x.give(2, 1);
        DUE.is("best(1)", x.best(1), 0);
        DUE.is("picks()", x.picks(), 2);
        want = new int[] {0, -1, 1, -1};
        for (int i = 0; i < 4; i++) {
            DUE.is("lies(" + i + ")", x.lies(i), want[i]);
        }
        x.give(0, 0);
        x.give(1, 2);
        DUE.is("best(3)", x.best(3), -1);
        DUE.is("picks()", x.picks(), 0);
        DUE.is("about(12)", x.about(12), 4);
        x = Due.cake("tier a 1 by 1 high 1;");
        DUE.is("picks()", x.picks(), 0);
        DUE.is("about(12)", x.about(12), 0);
    }

    private static void ordering() {
        // a: area 4, icing 10; b: area 6 (high), icing 4. The one without a sweet tooth takes area.
        ThreeTiers x = Due.cake("tier a 4 by 1 high 1;tier b 1 by 1 high 6;guest g wants 1 sweet 1;guest h wants 1;worth area+icing*sweet;");
        DUE.is("order()", x.order(), 6);
        DUE.is("lies(0)", x.lies(0), 0);
        DUE.is("lies(1)", x.lies(1), 1);
        DUE.is("about(12)", x.about(12), 2);
        // With fewer pieces than guests one has none: 0, whatever the order.
        x = Due.cake("tier a 4 by 1 high 1;tier b 1 by 1 high 6;guest g wants 1 sweet 2;guest h wants 1;guest i wants 2;worth (area+3*(sweet>0)*(area>5));");
        x.give(0, 2);
        DUE.is("order()", x.order(), 0);
        x.back(2);
        x.give(1, 0);
        DUE.is("order()", x.order(), 0);
        DUE.is("lies", x.lies(0) * 10 + x.lies(1), 12);
        DUE.is("about(12)", x.about(12), 2);
        x.give(0, 1);
        DUE.is("order()", x.order(), 0);
        DUE.is("lies(0)", x.lies(0), 2);
        DUE.is("about(12)", x.about(12), 1);
        x = Due.cake("tier a 1 by 1 high 1;guest g wants 1;");
        DUE.is("order()", x.order(), 1);
        x.give(0, 0);
        DUE.is("order() with all served", x.order(), -1000000000);
        DUE.is("nothing lies", x.about(12), 0);
        DUE.is("lies(0)", x.lies(0), -2);
        // If g picks first, h is left what is worth 2 to him; if h does, g has 5.
        x = Due.cake("tier a 1 by 1 high 9;tier b 1 by 1 high 5;guest g wants 1 sweet 5;guest h wants 1;worth area-(not sweet)*(area=5)*3;");
        DUE.is("order()", x.order(), 5);
        DUE.is("lies", x.lies(0) * 10 + x.lies(1), 10);
        DUE.is("least worths below 0", Due.cake("tier a 1 by 1 high 1;guest g wants 1;worth 0-8192*8192*32;").order(), Integer.MIN_VALUE);
    }
}
