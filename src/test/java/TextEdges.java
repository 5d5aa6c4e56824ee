/** Promises 1 to 5, and what the Terms say of a text, its TOKENS, numbers and FAULTS. */
final class TextEdges {
    private static final Due DUE = EdgesTest.DUE;
    private static final int LEAST = Integer.MIN_VALUE;
    private static final int MOST = Integer.MAX_VALUE;
    private static final int BLANKS = 0x20202020;

    static void run() {
        newObject();
        feedOrder();
        feedFull();
        endCuts();
        endRefuses();
        cakeEmptiesTheTape();
        cakeBeginsAnew();
        cakeWithFault();
        faultOfLatest();
        faultOtherWhat();
        longestText();
        noLines();
        words();
        numbers();
        signs();
        blanks();
        longTokens();
        letterBehindNumber();
        names();
        tiers();
        sides();
        heights();
        guests();
        wants();
        sweets();
        comes();
        numbering();
        paces();
        draws();
        onceEach();
        firstByPlace();
        theEnd();
        leastAtOnePlace();
        nameAgain();
        numbersThatCantBe();
        tierLine();
        guestLine();
    }

    static void faultAt(String text, int kind, int place) {
        ThreeTiers x = new ThreeTiers();
        int tiers = Due.tell(x, text);
        DUE.is("cake of " + text, tiers < 0, kind != 0);
        DUE.is("fault(0) of " + text, x.fault(0), kind);
        DUE.is("fault(1) of " + text, x.fault(1), place);
    }

    static void sound(String text) {
        faultAt(text, 0, -1);
    }

    private static void newObject() {
        DUE.sentence(1, "An empty CAKE.");
        ThreeTiers x = new ThreeTiers();
        DUE.row("about", x::about, 0, 0, 0, 0, 0, 0, 0, 0, 0, 0, 0, 0, 0);
        DUE.is("piece(0, 0)", x.piece(0, 0), -2);
        DUE.is("guest(0, 0)", x.guest(0, 0), -2);
        DUE.is("left()", x.left(), 0);
        DUE.is("undo()", x.undo(), false);
        DUE.is("redo()", x.redo(), false);
        DUE.is("restore(0)", x.restore(0), -1);
        DUE.is("lies(0)", x.lies(0), -2);
        DUE.is("cake()", x.cake(), 0);
        DUE.sentence(0, "`NONE = -1`: There is none.");
        DUE.is("NONE", ThreeTiers.NONE, -1);
    }

    private static void feedOrder() {
        DUE.sentence(2, "Twenty bytes come behind those on the TAPE, of each number the highest first: how many there are");
        for (int place = 0; place < 40; place++) {
            ThreeTiers x = new ThreeTiers();
            // A byte above 127 is no TOKEN wherever it stands, so its place can be asked for.
            int[] fours = {BLANKS, BLANKS, BLANKS, BLANKS, BLANKS, BLANKS, BLANKS, BLANKS, BLANKS, BLANKS};
            int shift = 24 - place % 4 * 8;
            fours[place / 4] = BLANKS & ~(255 << shift) | 225 << shift;
            DUE.is("the first feed", x.feed(fours[0], fours[1], fours[2], fours[3], fours[4]), 20);
            DUE.is("the second feed", x.feed(fours[5], fours[6], fours[7], fours[8], fours[9]), 40);
            DUE.is("cake()", x.cake(), -1);
            DUE.is("fault(0)", x.fault(0), 1);
            DUE.is("fault(1)", x.fault(1), place);
        }
    }

    private static void feedFull() {
        DUE.sentence(2, "NONE, and nothing comes, if there would be more than 1,600");
        ThreeTiers x = new ThreeTiers();
        for (int i = 1; i <= 80; i++) {
            DUE.is("feed " + i, x.feed(BLANKS, BLANKS, BLANKS, BLANKS, BLANKS), 20 * i);
        }
        DUE.is("feed at 1600", x.feed(0, 0, 0, 0, 0), -1);
        DUE.is("about(10)", x.about(10), 1600);
        x.end(1581);
        DUE.is("feed at 1581", x.feed(0, 0, 0, 0, 0), -1);
        DUE.is("about(10)", x.about(10), 1581);
        DUE.is("cake() without what did not come", x.cake(), 0);
        for (int i = 1; i <= 80; i++) {
            x.feed(BLANKS, BLANKS, BLANKS, BLANKS, BLANKS);
        }
        x.end(1580);
        DUE.is("feed at 1580", x.feed(BLANKS, BLANKS, BLANKS, BLANKS, BLANKS), 1600);
    }

    private static void endCuts() {
        DUE.sentence(3, "The TAPE has its first n bytes: n");
        ThreeTiers x = new ThreeTiers();
        DUE.is("end(0) of nothing", x.end(0), 0);
        Due.tape(x, "pace 7;draw 56;$$$$$");
        DUE.is("end of all", x.end(20), 20);
        DUE.is("end(13)", x.end(13), 13);
        DUE.is("about(10)", x.about(10), 13);
        x.feed(0x3b202020, BLANKS, BLANKS, BLANKS, BLANKS);
        DUE.is("about(10)", x.about(10), 33);
        DUE.is("cake()", x.cake(), 0);
        DUE.is("draw 5", x.about(4), 5);
        // A word and a number end where the TAPE does, whatever was behind them.
        Due.tape(x, "pace 12;");
        x.end(6);
        x.cake();
        DUE.row("fault of a number cut off", x::fault, 2, 6);
        Due.tape(x, "pace 1;pacea");
        x.end(11);
        x.cake();
        DUE.row("fault of a word cut off", x::fault, 2, 7);
        Due.tape(x, "tier tiers");
        x.end(9);
        x.cake();
        DUE.row("fault of a name cut off", x::fault, 2, 5);
        Due.tape(x, "$");
        DUE.is("end(0)", x.end(0), 0);
        DUE.is("about(10)", x.about(10), 0);
        DUE.is("cake() of nothing", x.cake(), 0);
    }

    private static void endRefuses() {
        DUE.sentence(3, "NONE, doing nothing, if it has not so many, or n is below 0");
        ThreeTiers x = new ThreeTiers();
        DUE.all("end on an empty tape", -1, x::end, 1, -1, 20, LEAST, MOST);
        Due.tape(x, "pace 7;");
        DUE.unchanged(x, () -> DUE.all("end", -1, x::end, 8, 20, 1600, 1601, -1, -7, LEAST, MOST));
        DUE.is("end(7)", x.end(7), 7);
    }

    private static void cakeEmptiesTheTape() {
        DUE.sentence(4, "The TAPE (empty then) is the CAKE");
        ThreeTiers x = new ThreeTiers();
        DUE.is("cake()", Due.tell(x, "tier a 2 by 1 high 1;tier b 2 by 1 high 1;"), 2);
        DUE.is("about(10)", x.about(10), 0);
        DUE.is("cake() again, of nothing", x.cake(), 0);
        DUE.is("about(0)", x.about(0), 0);
        DUE.is("cake() with a fault", Due.tell(x, "tier $"), -1);
        DUE.is("about(10)", x.about(10), 0);
        DUE.is("the first byte comes first", x.feed(BLANKS, BLANKS, BLANKS, BLANKS, BLANKS), 20);
        DUE.is("cake() of blanks", x.cake(), 0);
    }

    /** A table on which all that a cake takes away can be seen. */
    private static ThreeTiers busy() {
        ThreeTiers x = Due.cake("tier a 4 by 4 high 2;guest g wants 1 sweet 9 comes 9;guest h wants 2;worth not 0;slip 100;draw 7;pace 3;");
        x.later(9);
        x.cut(0, 0, 1);
        x.give(1, 1);
        x.cut(0, 1, 2);
        x.give(2, 0);
        x.cut(0, 1, 1);
        x.undo();
        x.sized(3, true);
        x.picks();
        x.image(0);
        x.image(1);
        x.image(2);
        return x;
    }

    private static void cakeBeginsAnew() {
        DUE.sentence(4, "(all as told, minute 0, no ACTS are kept, nothing is SEEN, nothing lies there, BOXES are empty then; the TIME stays)");
        ThreeTiers x = busy();
        DUE.row("about ahead of it", x::about, 1, 2, 3, 6, 181, 6, 4, 1, 1, 9, 0, 2, 2);
        DUE.is("cake()", Due.tell(x, "tier b 3 by 1 high 1;tier c 1 by 2 high 1;tier d 2 by 2 high 2;guest k wants 2;guest g wants 3;"), 3);
        DUE.row("about", x::about, 3, 2, 3, 0, 0, 0, 0, 0, 0, 9, 0, 0, 0);
        DUE.row("piece 0", what -> x.piece(0, what), 0, 0, 0, 3, 1, 3, 8, 0, -1);
        DUE.row("piece 1", what -> x.piece(1, what), 1, 0, 0, 1, 2, 2, 6, 0, -1);
        DUE.row("piece 2", what -> x.piece(2, what), 2, 0, 0, 2, 2, 8, 8, 0, -1);
        DUE.row("guest 0", what -> x.guest(0, what), 2, 0, 100, -1, 0);
        DUE.row("guest 1", what -> x.guest(1, what), 3, 0, 100, -1, 0);
        DUE.is("piece(3, 0)", x.piece(3, 0), -2);
        DUE.is("worth is AREA again", x.worth(0, 0), 3);
        DUE.is("slip is 0 again", x.slip(0, 0, 1), 0);
        DUE.is("fits(100)", x.fits(100), 2);
        DUE.is("undo()", x.undo(), false);
        DUE.is("redo()", x.redo(), false);
        DUE.is("lies(0)", x.lies(0), -2);
        DUE.all("restore", -1, x::restore, 0, 1, 2);
        x.cut(0, 0, 1);
        DUE.is("the pace is 1 again", x.about(3), 1);
        DUE.is("the draw was 0", x.about(4), 71);
    }

    private static void cakeWithFault() {
        DUE.sentence(4, "NONE: a FAULT (all stays)");
        ThreeTiers x = busy();
        String[] texts = {"tier b 3 by 1 high 1;guest k wants 2;worth 9;slip 3;draw 8;pace 4;#", "pace 61;", "guest", "tier b 1 by 1 high 1"};
        DUE.unchanged(x, () -> {
            for (String text : texts) {
                DUE.is("cake of " + text, Due.tell(x, text), -1);
            }
        });
        DUE.row("guest 0", what -> x.guest(0, what), 1, 9, 9, 2, 1);
        DUE.is("worth stays", x.worth(0, 0), 1);
        DUE.is("slip stays", x.slip(0, 1, 1), 100);
        DUE.is("redo()", x.redo(), true);
        DUE.is("the pace stays", x.about(3), 9);
        for (int box = 0; box < 3; box++) {
            DUE.is("restore", x.restore(box), 3);
        }
    }

    private static void faultOfLatest() {
        DUE.sentence(5, "Of the latest cake() what 0: its FAULT (0), 1: its place (NONE).");
        ThreeTiers x = new ThreeTiers();
        DUE.row("fault of no cake yet", x::fault, 0, -1);
        Due.tell(x, "pace 1;pace 61;");
        DUE.row("fault", x::fault, 2, 7);
        Due.tell(x, "pace 61;");
        DUE.row("fault", x::fault, 4, 5);
        Due.tape(x, "$");
        DUE.row("fault of the latest, not of the tape", x::fault, 4, 5);
        x.cake();
        DUE.row("fault", x::fault, 1, 0);
        Due.tell(x, "pace 1;");
        DUE.row("fault of a sound one", x::fault, 0, -1);
    }

    private static void faultOtherWhat() {
        DUE.sentence(5, "NONE for another what.");
        ThreeTiers x = new ThreeTiers();
        DUE.all("fault", -1, x::fault, -1, 2, 3, LEAST, MOST);
        Due.tell(x, "pace 1;pace 61;");
        DUE.all("fault", -1, x::fault, -1, 2, 3, LEAST, MOST);
    }

    private static void longestText() {
        DUE.sentence(0, "A CAKE is a text of at most 1,600 bytes (empty at first)");
        String line = "tier abcdefgh 8 by 8 high 9;";
        sound(" ".repeat(1600));
        sound(" ".repeat(1600 - line.length()) + line);
        sound(line + "\n".repeat(1600 - line.length()));
        faultAt(" ".repeat(1599) + ";", 2, 1599);
        faultAt(" ".repeat(1599) + "$", 1, 1599);
        faultAt(" ".repeat(1592) + "pace 61;", 4, 1597);
        faultAt(" ".repeat(1596) + "pace", 2, 1600);
    }

    private static void noLines() {
        DUE.sentence(0, "cake = {line}");
        sound("");
        sound(" ");
        sound("\n");
        faultAt(";", 2, 0);
        faultAt("pace 1;;", 2, 7);
        faultAt("pace 1;pace", 2, 7);
        faultAt("a", 2, 0);
        faultAt("1", 2, 0);
        faultAt("by", 2, 0);
        ThreeTiers x = Due.cake("pace 1;draw 3;tier a 1 by 1 high 1;");
        DUE.is("a line behind another", x.about(0) * 10 + x.about(4), 13);
    }

    private static void words() {
        DUE.sentence(0, "words (a .. z, 8 at most)");
        sound("tier a 1 by 1 high 1;tier z 1 by 1 high 1;");
        sound("tier abcdefgh 1 by 1 high 1;tier zyxwvuts 1 by 1 high 1;");
        faultAt("tier abcdefghi 1 by 1 high 1;", 1, 5);
        faultAt("tier zzzzzzzzz 1 by 1 high 1;", 1, 5);
        faultAt("tier " + "a".repeat(100), 1, 5);
        // Seventeen letters: eight twice and one more.
        faultAt("tier abcdefghabcdefgha", 1, 5);
        faultAt("guestguest", 1, 0);
        faultAt("tier ` 1", 1, 5);
        faultAt("tier { 1", 1, 5);
        faultAt("tier A 1", 1, 5);
        faultAt("tier aB 1", 1, 6);
        faultAt("tier Z 1", 1, 5);
        faultAt("tier a_b 1", 1, 6);
        // All eight letters tell names apart.
        sound("tier abcdefgh 1 by 1 high 1;tier abcdefgi 1 by 1 high 1;tier bbcdefgh 1 by 1 high 1;");
        sound("guest a wants 1;guest aa wants 1;guest aaa wants 1;guest ab wants 1;guest b wants 1;guest ba wants 1;");
    }

    private static void numbers() {
        DUE.sentence(0, "N (1 to 4 digits)");
        sound("worth 9;slip 9999;");
        sound("worth 0;slip 0000;");
        sound("tier a 0001 by 08 high 009;");
        faultAt("worth 10000;", 1, 6);
        faultAt("worth 00000;", 1, 6);
        faultAt("worth 00001;", 1, 6);
        faultAt("worth " + "1".repeat(40) + ";", 1, 6);
        faultAt("tier a 00001 by 1 high 1;", 1, 7);
        // 2 to the 32nd, and one more, is no 1.
        faultAt("tier a 4294967297 by 1 high 1;", 1, 7);
        faultAt("worth :;", 1, 6);
        ThreeTiers x = Due.cake("tier a 1 by 1 high 1;guest g wants 0099 sweet 0005 comes 0000;worth 0909*(0010-1);");
        DUE.row("guest 0", what -> x.guest(0, what), 99, 5, 0);
        DUE.is("worth", x.worth(0, 0), 8181);
    }

    private static void signs() {
        DUE.sentence(0, "signs ; ( ) < > = + - * / %");
        for (int sign = 0; sign < 256; sign++) {
            if (sign == ' ' || sign == '\n') {
                continue;
            }
            boolean token = sign >= 'a' && sign <= 'z' || sign >= '0' && sign <= '9' || ";()<>=+-*/%".indexOf(sign) >= 0;
            // No line begins with a sign, a letter or a digit alone.
            faultAt("" + (char) sign, token ? 2 : 1, 0);
        }
        sound("worth (1<2)+(3>4)-(5=6)*7/8%9;");
        sound("worth(1<2)+(3>4)-(5=6)*7/8%9\n;");
    }

    private static void blanks() {
        DUE.sentence(0, "blanks (32, 10) part them or not");
        sound("\n \n tier\na\n\n1  by\n1 high  1\n;\n ");
        sound("tier a1 by 1 high 1;guest g wants 1;worth area+1;");
        sound("worth(not(1))and(2)or(3);");
        faultAt("tier\ta", 1, 4);
        faultAt("tier\ra", 1, 4);
        faultAt("tier" + (char) 11 + "a", 1, 4);
        faultAt("tier" + (char) 9 + "a", 1, 4);
        faultAt("tier" + (char) 0 + "a", 1, 4);
        faultAt("tier" + (char) 31 + "a", 1, 4);
        faultAt("tier" + (char) 160 + "a", 1, 4);
        faultAt("tier" + (char) 138 + "a", 1, 4);
        DUE.is("blanks part numbers", Due.cake("worth 1+2 ;").about(11), 2);
        faultAt("worth 1 2;", 2, 8);
        faultAt("tier a b 1 by 1 high 1;", 2, 7);
    }

    private static void longTokens() {
        DUE.sentence(0, "each is as long as can be");
        faultAt("tiera 1 by 1 high 1;", 2, 0);
        faultAt("pace1;pace", 2, 6);
        faultAt("worth notarea;", 2, 6);
        faultAt("worth 1 andnot 1;", 2, 8);
        sound("tier tiera 1 by 1 high 1;guest notarea wants 1;");
        faultAt("tier a 11 by 1 high 1;", 4, 7);
        faultAt("tier a 1 by 18 high 1;", 4, 12);
    }

    private static void letterBehindNumber() {
        DUE.sentence(0, "no letter directly behind an N");
        faultAt("tier a 1by 1 high 1;", 1, 7);
        faultAt("tier a 1 by 1high 1;", 1, 12);
        faultAt("worth 12and 1;", 1, 6);
        faultAt("worth 1a;", 1, 6);
        faultAt("worth 1z;", 1, 6);
        faultAt("worth 9999or 1;", 1, 6);
        sound("tier a 1\nby 1 high 1;");
        sound("worth 1<(1)and 2;");
    }

    private static void names() {
        DUE.sentence(0, "Words that stand for themselves here are no NAMES.");
        String[] words = {"tier", "by", "high", "guest", "wants", "sweet", "comes", "worth", "slip", "pace", "draw",
            "or", "and", "not", "area", "icing", "broken", "long", "minute"};
        for (String word : words) {
            faultAt("tier " + word + " 1 by 1 high 1;", 2, 5);
            faultAt("guest " + word + " wants 1;", 2, 6);
            // One letter less or more is another word.
            sound("tier " + word.substring(1) + " 1 by 1 high 1;guest " + word + "s wants 1;");
        }
        for (String word : new String[] {"cake", "line", "e", "both", "one", "sum", "term", "unit", "name", "n"}) {
            sound("tier " + word + " 1 by 1 high 1;guest " + word + " wants 1;");
        }
    }

    private static void tiers() {
        DUE.sentence(0, "At most 3 TIERS");
        String three = "tier a 1 by 1 high 1;tier b 1 by 1 high 1;tier c 1 by 1 high 1;";
        DUE.is("three", Due.tell(new ThreeTiers(), three), 3);
        faultAt(three + " tier d 1 by 1 high 1;", 2, three.length() + 1);
        // Its name, told already, comes later.
        faultAt(three + "tier a 1 by 1 high 1;", 2, three.length());
    }

    private static void sides() {
        DUE.sentence(0, "(COLUMNS, ROWS 1 .. 8 both; high 1 .. 9)");
        ThreeTiers x = Due.cake("tier a 1 by 8 high 1;tier b 8 by 1 high 1;");
        DUE.row("piece 0", what -> x.piece(0, what), 0, 0, 0, 1, 8, 8, 18);
        DUE.row("piece 1", what -> x.piece(1, what), 1, 0, 0, 8, 1, 8, 18);
        faultAt("tier a 0 by 8 high 1;", 4, 7);
        faultAt("tier a 9 by 8 high 1;", 4, 7);
        faultAt("tier a 9999 by 8 high 1;", 4, 7);
        faultAt("tier a 8 by 0 high 1;", 4, 12);
        faultAt("tier a 8 by 9 high 1;", 4, 12);
        faultAt("tier a 8 by 10 high 1;", 4, 12);
    }

    private static void heights() {
        DUE.sentence(0, "high 1 .. 9");
        ThreeTiers x = Due.cake("tier a 2 by 1 high 1;tier b 2 by 1 high 9;");
        DUE.is("piece(0, 5)", x.piece(0, 5), 2);
        DUE.is("piece(1, 5)", x.piece(1, 5), 18);
        faultAt("tier a 1 by 1 high 0;", 4, 19);
        faultAt("tier a 1 by 1 high 10;", 4, 19);
        faultAt("tier a 1 by 1 high 9999;", 4, 19);
    }

    static String sixGuests() {
        return "guest a wants 1;guest b wants 2;guest c wants 3;guest d wants 4;guest e wants 5;guest f wants 6;";
    }

    private static void guests() {
        DUE.sentence(0, "6 GUESTS");
        DUE.is("six", Due.cake(sixGuests()).about(1), 6);
        DUE.is("the sixth", Due.cake(sixGuests()).guest(5, 0), 6);
        faultAt(sixGuests() + "guest g wants 1;", 2, sixGuests().length());
        faultAt(sixGuests() + "\nguest", 2, sixGuests().length() + 1);
        faultAt(sixGuests() + "guest f wants 1;", 2, sixGuests().length());
        sound(sixGuests() + "tier a 1 by 1 high 1;tier b 1 by 1 high 1;tier c 1 by 1 high 1;");
    }

    private static void wants() {
        DUE.sentence(0, "(want 0 .. 999;");
        ThreeTiers x = Due.cake("guest a wants 0;guest b wants 999;");
        DUE.row("wants", guest -> x.guest(guest, 0), 0, 999);
        faultAt("guest a wants 1000;", 4, 14);
        faultAt("guest a wants 9999;", 4, 14);
    }

    private static void sweets() {
        DUE.sentence(0, "sweet 0 .. 9, 0 if not told");
        ThreeTiers x = Due.cake("guest a wants 5 sweet 9;guest b wants 5;guest c wants 5 sweet 0;guest d wants 5 comes 7;");
        DUE.row("sweet", guest -> x.guest(guest, 1), 9, 0, 0, 0);
        faultAt("guest a wants 5 sweet 10;", 4, 22);
        faultAt("guest a wants 5 sweet 9999;", 4, 22);
    }

    private static void comes() {
        DUE.sentence(0, "comes 0 .. 100 of 100, 100 if not told");
        ThreeTiers x = Due.cake("guest a wants 5 comes 0;guest b wants 5;guest c wants 5 comes 100;guest d wants 5 sweet 7;");
        DUE.row("comes", guest -> x.guest(guest, 2), 0, 100, 100, 100);
        faultAt("guest a wants 5 comes 101;", 4, 22);
        faultAt("guest a wants 5 comes 9999;", 4, 22);
    }

    private static void numbering() {
        DUE.sentence(0, "numbered as told, each sort by itself");
        ThreeTiers x = Due.cake("guest z wants 7;tier z 1 by 1 high 1;guest a wants 8;tier a 1 by 1 high 2;guest m wants 9;tier m 1 by 1 high 3;");
        DUE.row("wants", guest -> x.guest(guest, 0), 7, 8, 9, -2);
        DUE.row("area", piece -> x.piece(piece, 5), 1, 2, 3, -2);
    }

    private static void paces() {
        DUE.sentence(0, "pace (0 .. 60; 1)");
        String[] lines = {"pace 0;", "pace 60;", ""};
        int[] want = {0, 60, 1};
        for (int i = 0; i < 3; i++) {
            ThreeTiers x = Due.cake("tier a 2 by 1 high 1;" + lines[i]);
            x.cut(0, 0, 1);
            DUE.is("the minute by " + lines[i], x.about(3), want[i]);
        }
        faultAt("pace 61;", 4, 5);
        faultAt("pace 9999;", 4, 5);
    }

    private static void draws() {
        DUE.sentence(0, "draw (0 .. 999; 0)");
        DUE.is("draw 0", Due.cake("draw 0;").about(4), 0);
        DUE.is("draw 999", Due.cake("draw 999;").about(4), 999);
        DUE.is("no draw", Due.cake("pace 5;").about(4), 0);
        faultAt("draw 1000;", 4, 5);
        faultAt("draw 9999;", 4, 5);
    }

    private static void onceEach() {
        DUE.sentence(0, "once each");
        String all = "worth 0;slip 0;pace 0;draw 0;";
        sound(all);
        for (String word : new String[] {"worth", "slip", "pace", "draw"}) {
            faultAt(all + word, 2, all.length());
            faultAt(all + "\n" + word + " 1;", 2, all.length() + 1);
            faultAt(word + " 1;" + word + " 1;", 2, word.length() + 3);
        }
        // What was told of a cake before, sound or not, is told anew in the next one.
        ThreeTiers x = new ThreeTiers();
        for (String end : new String[] {"", "$", "", "draw 1;", ""}) {
            DUE.is("once in each cake", Due.tell(x, all + end), end.isEmpty() ? 0 : -1);
        }
        DUE.sentence(0, "(one of a sort too many or a second time: at the line's first word;");
        faultAt("pace 1;  pace 99;", 2, 9);
        faultAt("worth 1;\nworth $", 2, 9);
        faultAt(sixGuests() + " guest a wants 9999", 2, sixGuests().length() + 1);
    }

    private static void firstByPlace() {
        DUE.sentence(0, "FAULTS, the first by its place (bytes from 0;");
        faultAt("$pace 61;", 1, 0);
        faultAt("pace 61;$", 4, 5);
        faultAt("pace pace 61;$", 2, 5);
        faultAt("tier a 9 by 9 high 10;", 4, 7);
        faultAt("tier a 1 by 9 high 10;", 4, 12);
        faultAt("tier a 1 by 1 high 1;tier a 9", 3, 26);
        faultAt("guest a wants 1000 sweet 10;", 4, 14);
        faultAt("worth 1;worth 1;pace 61;", 2, 8);
    }

    private static void theEnd() {
        DUE.sentence(0, "the end: the text's length)");
        String text = "tier a 1 by 2 high 3 ;guest b wants 4 sweet 5 comes 6 ;worth 1 + area ;slip not ( 2 < 3 ) ;pace 7 ;draw 8 ;";
        for (int length = 0; length <= text.length(); length++) {
            String ahead = text.substring(0, length);
            // Words cut in their middle are other words, so the text ends at blanks and signs only.
            if (ahead.endsWith(" ") || ahead.endsWith(";")) {
                boolean whole = ahead.isEmpty() || ahead.endsWith(";");
                faultAt(ahead, whole ? 0 : 2, whole ? -1 : length);
                faultAt(ahead + "\n", whole ? 0 : 2, whole ? -1 : length + 1);
            }
        }
        faultAt("pace 1", 2, 6);
        faultAt("pace", 2, 4);
    }

    private static void leastAtOnePlace() {
        DUE.sentence(0, "at one place the least: 1 no TOKEN; 2 one that can't stand there");
        // A number too long is no TOKEN, whatever could stand there.
        faultAt("pace 10000;", 1, 5);
        faultAt("pace abcdefghi;", 1, 5);
        faultAt("12345", 1, 0);
        faultAt("abcdefghi", 1, 0);
        faultAt("tier a 99999", 1, 7);
        faultAt("worth " + "1+".repeat(30) + "$", 1, 66);
        faultAt("tier 9", 2, 5);
    }

    private static void nameAgain() {
        DUE.sentence(0, "3 a NAME told already (of its sort)");
        sound("tier a 1 by 1 high 1;guest a wants 1;tier b 1 by 1 high 1;guest b wants 1;");
        faultAt("tier a 1 by 1 high 1;tier b 1 by 1 high 1;tier a", 3, 47);
        faultAt("tier a 1 by 1 high 1;tier b 1 by 1 high 1;tier b", 3, 47);
        String five = "guest a wants 1;guest b wants 2;guest c wants 3;guest d wants 4;guest e wants 5;";
        for (char name = 'a'; name <= 'e'; name++) {
            faultAt(five + "guest " + name + " wants 1;", 3, five.length() + 6);
        }
        faultAt("tier abcdefgh 1 by 1 high 1;tier abcdefgh 1 by 1 high 1;", 3, 33);
        // A name of a cake told before is new in the next one.
        ThreeTiers x = Due.cake("tier a 1 by 1 high 1;");
        DUE.is("told anew", Due.tell(x, "tier a 1 by 1 high 1;"), 1);
        DUE.is("told in a faulty one", Due.tell(x, "tier b 1 by 1 high 1;$"), -1);
        DUE.is("told anew", Due.tell(x, "tier b 1 by 1 high 1;"), 1);
    }

    private static void numbersThatCantBe() {
        DUE.sentence(0, "4 a number that can't be.");
        String[] ahead = {"tier a ", "tier a 1 by ", "tier a 1 by 1 high ", "guest a wants ", "guest a wants 1 sweet ",
            "guest a wants 1 comes ", "guest a wants 1 sweet 1 comes ", "pace ", "draw "};
        int[] least = {1, 1, 1, 0, 0, 0, 0, 0, 0};
        int[] most = {8, 8, 9, 999, 9, 100, 100, 60, 999};
        for (int i = 0; i < ahead.length; i++) {
            for (int number : new int[] {0, 1, most[i] - 1, most[i], most[i] + 1, 9999}) {
                boolean can = number >= least[i] && number <= most[i];
                // What comes behind the number is missing, so a number that can be is not the fault.
                String text = ahead[i] + number;
                faultAt(text, can ? 2 : 4, can ? text.length() : ahead[i].length());
            }
        }
        sound("worth 9999;slip 0;");
    }

    private static void tierLine() {
        DUE.sentence(0, "tier NAME N by N high N ;");
        sound("tier a 1 by 2 high 3;");
        faultAt("tier 1 by 2 high 3;", 2, 5);
        faultAt("tier a by 2 high 3;", 2, 7);
        faultAt("tier a 1 2 high 3;", 2, 9);
        faultAt("tier a 1 high 3;", 2, 9);
        faultAt("tier a 1 by high 3;", 2, 12);
        faultAt("tier a 1 by 2 3;", 2, 14);
        faultAt("tier a 1 by 2;", 2, 13);
        faultAt("tier a 1 by 2 high;", 2, 18);
        faultAt("tier a 1 by 2 high 3 4;", 2, 21);
        faultAt("tier a 1 by 2 high 3 tier", 2, 21);
        DUE.sentence(0, "pace N ; | draw N ;.");
        faultAt("pace;", 2, 4);
        faultAt("draw;", 2, 4);
        faultAt("pace a;", 2, 5);
        faultAt("draw 1 2;", 2, 7);
        faultAt("pace 1 draw 2;", 2, 7);
    }

    private static void guestLine() {
        DUE.sentence(0, "guest NAME wants N [sweet N] [comes N] ;");
        sound("guest a wants 1;guest b wants 1 sweet 1;guest c wants 1 comes 1;guest d wants 1 sweet 1 comes 1;");
        faultAt("guest a wants 1 comes 1 sweet 1;", 2, 24);
        faultAt("guest a wants 1 sweet 1 sweet 1;", 2, 24);
        faultAt("guest a wants 1 comes 1 comes 1;", 2, 24);
        faultAt("guest a wants 1 wants 1;", 2, 16);
        faultAt("guest a sweet 1;", 2, 8);
        faultAt("guest a;", 2, 7);
        faultAt("guest a wants;", 2, 13);
        faultAt("guest a wants 1 sweet;", 2, 21);
        faultAt("guest a wants 1 comes;", 2, 21);
        faultAt("guest wants 1;", 2, 6);
    }

    private TextEdges() {
    }
}
