/** Promises 16 to 21, 29, 32 and 33: who can be served, by which cut most, and who envies whom. */
final class ServingEdges {
    private static final Due DUE = EdgesTest.DUE;
    private static final int LEAST = Integer.MIN_VALUE;
    private static final int MOST = Integer.MAX_VALUE;

    static void run() {
        feedsNoMore();
        feedsRefuses();
        servedMost();
        servedNone();
        nextMost();
        nextFirst();
        nextNone();
        nextOtherWhat();
        nothingSlips();
        enviesMore();
        enviesWithout();
        enviesRefuses();
        quarrels();
        calmFewest();
        calmWithout();
        calmFirst();
        calmNone();
        calmOtherWhat();
        roomMore();
        roomNone();
        hungryOnes();
        lawBounds();
        lawRefuses();
    }

    private static void feedsNoMore() {
        DUE.sentence(0, "A PIECE FEEDS a GUEST who wants no more than its AREA.");
        ThreeTiers x = Due.cake("tier a 2 by 1 high 6;tier b 1 by 1 high 1;guest f wants 11;guest g wants 12;guest h wants 13;guest i wants 0;guest j wants 999;guest k wants 1;");
        DUE.row("feeds", x::feeds, 1, 1, 0, 3, 0, 3);
        DUE.sentence(16, "PIECES on no plate that FEED a GUEST, as bits");
        x.give(0, 4);
        DUE.row("feeds but for the first", x::feeds, 0, 0, 0, 2, 0, 2);
        x.give(1, 5);
        DUE.row("feeds with none", x::feeds, 0, 0, 0, 0, 0, 0);
        x.back(4);
        DUE.row("feeds one who has a piece too", x::feeds, 1, 1, 0, 1, 0, 1);
        ThreeTiers y = ActEdges.full();
        DUE.is("pieces", y.about(2), 24);
        DUE.is("all 24", y.feeds(0), 0xffffff);
    }

    private static void feedsRefuses() {
        DUE.sentence(16, "NONE if there is none such");
        ThreeTiers x = Due.cake("tier a 2 by 1 high 6;guest g wants 1;");
        DUE.all("feeds", -1, x::feeds, -1, 1, 6, LEAST, MOST);
        DUE.is("of nothing", new ThreeTiers().feeds(0), -1);
    }

    private static void servedMost() {
        DUE.sentence(0, "SERVED: the most GUESTS without a PIECE to whom unlike PIECES that are on no plates can be given, each of which FEEDS him.");
        // Areas 4, 4 and 9: the first to come must not take the 9 from who wants 5.
        ThreeTiers x = Due.cake("tier a 2 by 2 high 1;tier b 2 by 2 high 1;tier c 3 by 3 high 1;guest f wants 1;guest g wants 4;guest h wants 5;guest i wants 9;");
        DUE.is("served", x.served(), 3);
        x.give(0, 3);
        DUE.is("with one less", x.served(), 2);
        x.give(2, 0);
        DUE.is("with two less", x.served(), 1);
        x.exchange(0, 3);
        DUE.is("plates alone count", x.served(), 1);
        // In whatever order they are told.
        DUE.is("those who want much first", Due.cake("tier a 2 by 2 high 1;tier b 2 by 2 high 1;tier c 3 by 3 high 1;guest f wants 9;guest g wants 5;guest h wants 4;guest i wants 1;").served(), 3);
        DUE.is("the one in the middle last", Due.cake("tier a 1 by 1 high 1;tier b 5 by 1 high 1;tier c 3 by 3 high 1;guest f wants 1;guest g wants 9;guest h wants 5;").served(), 3);
        DUE.is("one piece serves one", Due.cake("tier a 8 by 8 high 9;guest f wants 1;guest g wants 1;").served(), 1);
    }

    private static void servedNone() {
        DUE.sentence(17, "SERVED: how many.");
        DUE.is("nothing", new ThreeTiers().served(), 0);
        DUE.is("no guests", Due.cake("tier a 8 by 8 high 9;").served(), 0);
        DUE.is("no pieces", Due.cake("guest f wants 0;").served(), 0);
        DUE.is("too little", Due.cake("tier a 8 by 8 high 9;guest f wants 577;").served(), 0);
        DUE.is("just enough", Due.cake("tier a 8 by 8 high 9;guest f wants 576;").served(), 1);
        DUE.is("who does not come is a guest too", Due.cake("tier a 1 by 1 high 1;guest f wants 1 comes 0;").served(), 1);
        ThreeTiers x = Due.cake("tier a 6 by 1 high 1;" + TextEdges.sixGuests().replaceAll("wants .", "wants 0"));
        for (int i = 0; i < 5; i++) {
            x.cut(i, 0, 1);
        }
        DUE.is("all six", x.served(), 6);
    }

    private static void nextMost() {
        DUE.sentence(0, "NEXT: the CUT by which SERVED is most");
        ThreeTiers x = Due.cake("tier a 1 by 1 high 1;tier b 5 by 2 high 1;guest g wants 8;guest h wants 2;guest i wants 1;");
        DUE.row("next", x::next, 1, 0, 1, 3);
        // Of 2 by 5 a row of 2 leaves 8.
        ThreeTiers y = Due.cake("tier a 2 by 5 high 1;guest g wants 8;guest h wants 2;");
        DUE.row("next by rows", y::next, 0, 1, 1, 2);
        ThreeTiers z = Due.cake("tier a 2 by 1 high 1;guest g wants 2;");
        DUE.row("next, though it serves fewer", z::next, 0, 0, 1, 0);
        z.give(0, 0);
        DUE.row("next on no plate", z::next, -1, -1, -1, -1);
        // Each CUT by itself: what others would bring is not there.
        ThreeTiers v = Due.cake("tier a 3 by 1 high 1;guest f wants 1;guest g wants 1;guest h wants 1;");
        DUE.row("one cut of three", v::next, 0, 0, 1, 2);
        ThreeTiers w = Due.cake("tier a 2 by 1 high 1;tier b 2 by 1 high 1;guest f wants 1;guest g wants 1;guest h wants 1;guest i wants 1;");
        DUE.row("one cut of two", w::next, 0, 0, 1, 3);
        ThreeTiers t = Due.cake("tier a 4 by 1 high 2;guest f wants 3;guest g wants 4;");
        DUE.row("the second cut", t::next, 0, 0, 2, 2);
        ThreeTiers s = Due.cake("tier a 2 by 5 high 1;guest f wants 6;guest g wants 2;");
        DUE.row("a cut by rows", s::next, 0, 1, 1, 2);
        // The whole is there no more when it is cut.
        ThreeTiers u = Due.cake("tier a 2 by 1 high 1;tier b 1 by 2 high 1;guest f wants 2;guest g wants 2;guest h wants 1;");
        DUE.row("the whole is gone", u::next, 0, 0, 1, 2);
    }

    private static void nextFirst() {
        DUE.sentence(0, "of like ones the first (PIECE by PIECE, columns ahead of rows, fewer behind it first).");
        ThreeTiers x = Due.cake("tier a 3 by 3 high 1;tier b 3 by 3 high 1;");
        DUE.row("next without guests", x::next, 0, 0, 1, 0);
        ThreeTiers rows = Due.cake("tier a 1 by 3 high 1;tier b 3 by 3 high 1;");
        DUE.row("rows of the first ahead of columns of the second", rows::next, 0, 1, 1, 0);
        ThreeTiers y = Due.cake("tier a 4 by 4 high 1;guest g wants 8;guest h wants 8;");
        DUE.row("the middle", y::next, 0, 0, 2, 2);
        ThreeTiers z = Due.cake("tier a 5 by 5 high 1;guest g wants 1;guest h wants 1;");
        DUE.row("fewer behind it", z::next, 0, 0, 1, 2);
        ThreeTiers w = Due.cake("tier a 1 by 1 high 1;tier b 2 by 2 high 1;tier c 2 by 2 high 1;guest g wants 1;");
        DUE.row("the first that can be cut", w::next, 1, 0, 1, 1);
    }

    private static void nextNone() {
        DUE.sentence(18, "NONE if there is no CUT");
        DUE.all("of nothing", -1, new ThreeTiers()::next, 0, 1, 2, 3);
        DUE.all("of one cell", -1, Due.cake("tier a 1 by 1 high 9;guest g wants 1;")::next, 0, 1, 2, 3);
        ThreeTiers x = ActEdges.full();
        DUE.is("pieces", x.about(2), 24);
        DUE.all("with 24", -1, x::next, 0, 1, 2, 3);
        x.undo();
        DUE.row("with 23", x::next, 2, 0, 1, 2);
    }

    private static void nextOtherWhat() {
        DUE.sentence(18, "or for another what");
        ThreeTiers x = Due.cake("tier a 2 by 1 high 1;guest g wants 1;");
        DUE.all("next", -1, x::next, -1, 4, 5, LEAST, MOST);
    }

    private static void nothingSlips() {
        DUE.sentence(0, "(By what is now; nothing is done; nothing slips.)");
        ThreeTiers x = Due.cake("tier a 4 by 2 high 1;guest f wants 2;guest g wants 4;guest h wants 1;worth area-broken*99-minute*99;slip 100;pace 60;draw 9;");
        x.cut(0, 1, 1);
        x.give(0, 2);
        x.undo();
        DUE.unchanged(x, () -> {
            DUE.is("served", x.served(), 2);
            DUE.row("next", x::next, 0, 0, 1, 3);
            DUE.is("law", x.law(3), 1);
            DUE.is("room", x.room(0), 2);
            DUE.is("best", x.best(0), 0);
            DUE.is("share by the minute that is", x.share(0, 0, 1), 2 - 99 * 60);
            DUE.is("hungry", x.hungry(), 0);
            DUE.is("calm", x.calm(0), -1);
        });
    }

    private static void enviesMore() {
        DUE.sentence(0, "a GUEST who has a PIECE envies another one whose PIECE is WORTH more to him");
        ThreeTiers x = Due.cake("tier a 3 by 1 high 1;tier b 3 by 1 high 1;tier c 1 by 1 high 4;guest f wants 1;guest g wants 1;guest h wants 1;");
        x.give(0, 0);
        x.give(1, 1);
        DUE.row("of like worth", x::envies, 0, 0, 3);
        x.give(2, 2);
        DUE.row("of more worth", x::envies, 4, 4, 0);
        // As it is worth to each himself.
        ThreeTiers y = Due.cake("tier a 3 by 1 high 1;tier b 1 by 1 high 4;guest f wants 1 sweet 1;guest g wants 1;worth area+icing*sweet;");
        y.give(0, 0);
        y.give(1, 1);
        DUE.row("each by his own", y::envies, 0, 0);
        y.exchange(0, 1);
        DUE.row("each by his own", y::envies, 2, 1);
    }

    private static void enviesWithout() {
        DUE.sentence(0, "one without a PIECE whoever has one WORTH more than 0 to him.");
        int[] want = {0, 0, 1};
        String[] worths = {"0-1", "0", "1"};
        for (int i = 0; i < 3; i++) {
            ThreeTiers x = Due.cake("tier a 3 by 1 high 1;guest f wants 1;guest g wants 1;worth " + worths[i] + ";");
            DUE.is("none has one", x.envies(1), 0);
            x.give(0, 0);
            DUE.is("worth " + worths[i], x.envies(1), want[i]);
            DUE.is("he does not envy himself", x.envies(0), 0);
        }
    }

    private static void enviesRefuses() {
        DUE.sentence(19, "Whom a GUEST ENVIES, as bits; NONE if there is none such");
        ThreeTiers x = Due.cake("tier a 6 by 1 high 1;" + TextEdges.sixGuests());
        for (int i = 0; i < 5; i++) {
            x.cut(0, 0, 5 - i);
        }
        x.give(1, 1);
        x.give(3, 3);
        x.give(5, 5);
        DUE.row("envies", x::envies, 42, 0, 42, 0, 42, 0);
        DUE.all("envies", -1, x::envies, -1, 6, 7, LEAST, MOST);
        DUE.is("of nothing", new ThreeTiers().envies(0), -1);
    }

    private static void quarrels() {
        DUE.sentence(20, "How many ENVIES there are.");
        DUE.is("nothing", new ThreeTiers().quarrel(), 0);
        ThreeTiers x = Due.cake("tier a 6 by 1 high 1;" + TextEdges.sixGuests() + "worth icing*0+area;");
        DUE.is("none has one", x.quarrel(), 0);
        x.cut(0, 0, 5);
        x.cut(0, 0, 3);
        x.give(0, 0);
        DUE.is("one has one", x.quarrel(), 5);
        // 3, 1 and 2 cells: 2 and 1 envies, and three without envy all three.
        x.give(1, 1);
        x.give(2, 2);
        DUE.is("three have one", x.quarrel(), 12);
    }

    /** Pieces of 4, 3, 2 and 1 cells on plates of four guests, who like much or, with a sweet tooth, little. */
    private static ThreeTiers plates(String guests, int... pieces) {
        ThreeTiers x = Due.cake("tier a 8 by 1 high 1;tier b 2 by 1 high 1;worth area*(1-sweet*2);" + guests);
        x.cut(0, 0, 4);
        x.cut(2, 0, 3);
        // Piece 0: 4, piece 1: 2, piece 2: 3, piece 3: 1.
        for (int guest = 0; guest < pieces.length; guest++) {
            if (pieces[guest] >= 0) {
                x.give(pieces[guest], guest);
            }
        }
        return x;
    }

    private static void calmFewest() {
        DUE.sentence(0, "CALM: the two GUESTS (both have PIECES) by whose exchange fewest ENVIES are left");
        // Who likes little has 4 cells, who likes much has 1, the third has 3.
        ThreeTiers x = plates("guest f wants 1 sweet 1;guest g wants 1;guest h wants 1;", 0, 3, 2);
        DUE.is("quarrel", x.quarrel(), 5);
        DUE.row("calm", x::calm, 0, 1, 1);
        x.exchange(0, 1);
        DUE.is("as it is then", x.quarrel(), 1);
        // The last two are the best to exchange: 4 cells for who likes little, 1 for who likes much.
        ThreeTiers y = plates("guest f wants 1;guest g wants 1 sweet 1;guest h wants 1;", 2, 0, 3);
        DUE.row("calm", y::calm, 1, 2, 1);
        DUE.row("pieces stay", guest -> y.guest(guest, 3), 2, 0, 3);
        // One without a piece has nothing to be envied for, though what others have is less than 0 to them.
        ThreeTiers z = plates("guest f wants 1 sweet 1;guest g wants 1;guest h wants 1 sweet 1;", 0, 3, -1);
        DUE.is("quarrel", z.quarrel(), 2);
        DUE.row("calm", z::calm, 0, 1, 0);
    }

    private static void calmWithout() {
        DUE.sentence(0, "by whose exchange fewest ENVIES are left");
        // To one without a piece all is worth 1, and he envies; to another one 0, and he does not.
        ThreeTiers x = Due.cake("tier a 4 by 1 high 1;tier b 1 by 1 high 1;worth (sweet<2)*area*(1-sweet*2)+(sweet=2);"
                + "guest f wants 1 sweet 1;guest g wants 1;guest h wants 1 sweet 2;guest i wants 1 sweet 3;");
        x.give(0, 0);
        x.give(1, 1);
        DUE.is("quarrel", x.quarrel(), 4);
        DUE.row("calm", x::calm, 0, 1, 2);
        // Six guests, all with pieces, the last of whom likes little and has much.
        ThreeTiers y = Due.cake("tier a 6 by 1 high 1;tier b 5 by 1 high 1;tier c 4 by 1 high 1;worth area*(1-sweet*2);"
                + TextEdges.sixGuests().replace("wants 6", "wants 6 sweet 1"));
        y.cut(2, 0, 3);
        y.cut(0, 0, 4);
        y.cut(1, 0, 4);
        // Pieces of 4, 4, 3, 1, 2 and 1 cells; the last guest has the first of them.
        for (int guest = 0; guest < 6; guest++) {
            y.give(guest == 5 ? 0 : guest + 1, guest);
        }
        // Each envies those who have more: 0, 2, 4, 3 and 4; the last one those who have less: 4.
        DUE.is("quarrel", y.quarrel(), 17);
        DUE.row("calm", y::calm, 2, 5, 9);
    }

    private static void calmFirst() {
        DUE.sentence(0, "of like ones the first (the lesser number, then the other one), if it is fewer than now.");
        // Two who like little have much, two who like much have little: four pairs are alike.
        ThreeTiers x = Due.cake("tier a 8 by 1 high 1;tier b 2 by 1 high 1;tier c 2 by 1 high 1;worth (area>2)*(1-sweet*2);"
                + "guest f wants 1 sweet 1;guest g wants 1 sweet 1;guest h wants 1;guest i wants 1;");
        x.cut(0, 0, 4);
        x.give(0, 0);
        x.give(3, 1);
        x.give(1, 2);
        x.give(2, 3);
        DUE.is("quarrel", x.quarrel(), 8);
        DUE.row("calm", x::calm, 0, 2, 4);
        x.exchange(0, 2);
        DUE.row("calm then", x::calm, 1, 3, 0);
        x.exchange(1, 3);
        DUE.row("calm at last", x::calm, -1, -1, -1);
    }

    private static void calmNone() {
        DUE.sentence(21, "NONE if none is");
        DUE.all("of nothing", -1, new ThreeTiers()::calm, 0, 1, 2);
        // An exchange of two who like the same leaves as many envies.
        ThreeTiers x = plates("guest f wants 1;guest g wants 1;", 0, 1);
        DUE.is("quarrel", x.quarrel(), 1);
        DUE.all("as many", -1, x::calm, 0, 1, 2);
        // One has a piece alone.
        ThreeTiers y = plates("guest f wants 1 sweet 1;guest g wants 1;", 0, -1);
        DUE.is("quarrel", y.quarrel(), 1);
        DUE.all("one alone", -1, y::calm, 0, 1, 2);
        // An exchange that leaves more.
        ThreeTiers z = plates("guest f wants 1 sweet 1;guest g wants 1;", 3, 0);
        DUE.is("quarrel", z.quarrel(), 0);
        DUE.all("more", -1, z::calm, 0, 1, 2);
    }

    private static void calmOtherWhat() {
        DUE.sentence(21, "or for another what");
        ThreeTiers x = plates("guest f wants 1 sweet 1;guest g wants 1;", 0, 3);
        DUE.row("calm", x::calm, 0, 1, 0);
        DUE.all("calm", -1, x::calm, -1, 3, 4, LEAST, MOST);
    }

    private static void roomMore() {
        DUE.sentence(0, "ROOM of a GUEST: how much more he could want, so that SERVED were as many still, and he is one of them.");
        // Areas 4, 4 and 9: who wants 3 or 1 must leave the 9 to who wants 5.
        ThreeTiers x = Due.cake("tier a 2 by 2 high 1;tier b 2 by 2 high 1;tier c 3 by 3 high 1;guest g wants 3;guest h wants 5;guest i wants 1;");
        DUE.row("room", x::room, 1, 4, 3);
        // Only one can be served, whoever it is.
        ThreeTiers y = Due.cake("tier a 3 by 3 high 1;guest g wants 3;guest h wants 9;guest i wants 0;");
        DUE.row("room", y::room, 6, 0, 9);
        // Pieces are tried one by one, each with all others there.
        DUE.is("the greater one first", Due.cake("tier a 3 by 3 high 1;tier b 2 by 2 high 1;guest g wants 3;").room(0), 6);
        DUE.is("the greater one last", Due.cake("tier a 2 by 2 high 1;tier b 3 by 3 high 1;guest g wants 3;").room(0), 6);
        ThreeTiers z = Due.cake("tier a 2 by 2 high 1;tier b 5 by 1 high 1;guest g wants 3;guest h wants 3;");
        DUE.row("room of two", z::room, 2, 2);
        ThreeTiers w = Due.cake("tier a 2 by 2 high 1;tier b 5 by 1 high 1;guest g wants 3;guest h wants 3;guest i wants 3;");
        DUE.row("room of three", w::room, 2, 2, 2);
        // Who is all but fed is not SERVED.
        ThreeTiers v = Due.cake("tier a 2 by 2 high 1;tier b 2 by 2 high 1;guest g wants 5;guest h wants 2;");
        DUE.row("room", v::room, -1, 2);
        v.give(1, 0);
        DUE.row("room", v::room, -1, 2);
        // What is on a plate is no room.
        ThreeTiers u = Due.cake("tier a 2 by 2 high 1;tier b 3 by 3 high 1;guest g wants 3;guest h wants 1;");
        u.give(1, 1);
        DUE.row("room", u::room, 1, -1);
        DUE.is("room of who wants 999", Due.cake("tier a 8 by 8 high 9;guest g wants 999;").room(0), -1);
        DUE.is("room of who wants 0", Due.cake("tier a 8 by 8 high 9;guest g wants 0;").room(0), 576);
    }

    private static void roomNone() {
        DUE.sentence(29, "NONE if he is among the SERVED in no way now, has a PIECE, or there is none such");
        ThreeTiers x = Due.cake("tier a 2 by 1 high 1;tier b 2 by 1 high 1;guest g wants 1;guest h wants 3;guest i wants 2;");
        DUE.row("room", x::room, 1, -1, 0);
        DUE.all("room", -1, x::room, -1, 3, 6, LEAST, MOST);
        x.give(0, 0);
        DUE.row("room of who has a piece", x::room, -1, -1, 0);
        x.give(1, 1);
        DUE.row("room with no piece left", x::room, -1, -1, -1);
        DUE.is("no pieces at all", Due.cake("guest g wants 0;").room(0), -1);
        DUE.is("of nothing", new ThreeTiers().room(0), -1);
    }

    private static void hungryOnes() {
        DUE.sentence(32, "GUESTS without a PIECE whom none on no plate FEEDS, as bits.");
        ThreeTiers x = Due.cake("tier a 2 by 1 high 6;tier b 1 by 1 high 1;guest f wants 12;guest g wants 13;guest h wants 0;guest i wants 1;guest j wants 999;guest k wants 2;");
        DUE.is("hungry", x.hungry(), 2 + 16);
        x.give(0, 1);
        DUE.is("the second has a piece", x.hungry(), 1 + 16 + 32);
        x.give(1, 4);
        DUE.is("no piece is left", x.hungry(), 1 + 4 + 8 + 32);
        DUE.is("no guests", Due.cake("tier a 1 by 1 high 1;").hungry(), 0);
        DUE.is("no pieces", Due.cake("guest g wants 0;").hungry(), 1);
    }

    private static void lawBounds() {
        DUE.sentence(33, "SERVED, if each GUEST wanted n more (-99 .. 99; 0 at least)");
        ThreeTiers x = Due.cake("tier a 5 by 4 high 5;tier b 1 by 1 high 1;guest g wants 1;guest h wants 100;guest i wants 5;");
        int[] more = {-99, -98, -5, -4, -1, 0, 1, 95, 96, 98, 99};
        int[] want = {2, 2, 2, 2, 2, 2, 1, 1, 1, 1, 1};
        DUE.row("law", i -> x.law(more[i]), want);
        // Who wants less than 0 wants 0, no less, and 0 is fed by any piece but not by none.
        ThreeTiers y = Due.cake("tier a 1 by 1 high 1;guest g wants 98;guest h wants 99;guest i wants 100;guest j wants 101;");
        int[] less = {-99, -98, -97, -96, 0, 99};
        DUE.row("law", i -> y.law(less[i]), 1, 1, 1, 0, 0, 0);
        y.give(0, 3);
        DUE.row("law with none left", i -> y.law(less[i]), 0, 0, 0, 0, 0, 0);
        ThreeTiers z = Due.cake("tier a 5 by 4 high 5;guest g wants 1;");
        DUE.is("law(99)", z.law(99), 1);
        DUE.is("law(99) of 2", Due.cake("tier a 5 by 4 high 5;guest g wants 2;").law(99), 0);
        DUE.is("law(0) is served()", x.law(0), x.served());
        DUE.is("of nothing", new ThreeTiers().law(0), 0);
    }

    private static void lawRefuses() {
        DUE.sentence(33, "NONE for another n");
        ThreeTiers x = Due.cake("tier a 5 by 4 high 5;guest g wants 1;");
        DUE.all("law", -1, x::law, -100, -101, 100, 101, LEAST, MOST);
        DUE.all("law of nothing", -1, new ThreeTiers()::law, -100, 100);
    }

    private ServingEdges() {
    }
}
