/** Promises 1 to 5: a new object, the tape, the cake's text and its faults. */
public final class TextTest {
    private static final Due DUE = new Due("TextTest");

    public static void main(String[] args) {
        newObject();
        tape();
        told();
        staysOrGoes();
        tokens();
        places();
        names();
        numbers();
        tooMany();
        formulas();
        DUE.finish();
    }

    private static void newObject() {
        ThreeTiers x = new ThreeTiers();
        for (int what = 0; what <= 12; what++) {
            DUE.is("new about(" + what + ")", x.about(what), 0);
        }
        DUE.is("fault(0)", x.fault(0), 0);
        DUE.is("fault(1)", x.fault(1), -1);
        DUE.is("fault(-1)", x.fault(-1), -1);
        DUE.is("fault(2)", x.fault(2), -1);
        DUE.is("empty cake()", x.cake(), 0);
        DUE.is("piece(0, 0)", x.piece(0, 0), -2);
        DUE.is("guest(0, 0)", x.guest(0, 0), -2);
        DUE.is("image(0)", x.image(0), 0);
        DUE.is("restore(0)", x.restore(0), 0);
        DUE.is("restore(1)", x.restore(1), -1);
    }

    private static void tape() {
        ThreeTiers x = new ThreeTiers();
        for (int i = 1; i <= 80; i++) {
            DUE.is("feed", x.feed(0x20202020, 0x20202020, 0x0a0a0a0a, 0x20202020, 0x20202020), 20 * i);
        }
        DUE.is("feed beyond 1600", x.feed(0, 0, 0, 0, 0), -1);
        DUE.is("about(10)", x.about(10), 1600);
        DUE.is("end(1601)", x.end(1601), -1);
        DUE.is("end(-1)", x.end(-1), -1);
        DUE.is("end(1581)", x.end(1581), 1581);
        DUE.is("feed to 1601", x.feed(0, 0, 0, 0, 0), -1);
        DUE.is("end(1580)", x.end(1580), 1580);
        DUE.is("feed to 1600", x.feed(0x20202020, 0x20202020, 0x20202020, 0x20202020, 0x20202024), 1600);
        DUE.is("cake with $ last", x.cake(), -1);
        DUE.is("fault(0)", x.fault(0), 1);
        DUE.is("fault(1)", x.fault(1), 1599);
        DUE.is("about(10)", x.about(10), 0);
        DUE.is("end(0)", x.end(0), 0);
        DUE.is("end(1)", x.end(1), -1);
        // What was cut off the tape is no more read.
        Due.tape(x, "pace 12;");
        x.end(6);
        DUE.is("cake of pace 1", x.cake(), -1);
        DUE.is("fault(0)", x.fault(0), 2);
        DUE.is("fault(1)", x.fault(1), 6);
        Due.tape(x, "tier ab");
        x.end(6);
        DUE.is("cake of tier a", x.cake(), -1);
        Due.tape(x, "pace 7;draw 5;draw 6;");
        x.end(14);
        DUE.is("cake of two lines", x.cake(), 0);
        DUE.is("about(4)", x.about(4), 5);
        Due.tape(x, "pace 12");
        x.end(6);
        x.feed(0x3b202020, 0x20202020, 0x20202020, 0x20202020, 0x20202020);
        DUE.is("cake of pace 1;", x.cake(), 0);
        Due.tape(x, "pace 1;");
        DUE.is("end(0)", x.end(0), 0);
        DUE.is("about(10)", x.about(10), 0);
    }

    private static void told() {
        ThreeTiers x = Due.cake("tier a 1 by 8 high 9;guest a wants 0;tier b 08 by 0001 high 1;guest b wants 999 sweet 9 comes 0;"
                + "guest c wants 007 sweet 0 comes 100;guest d wants 5 comes 33;draw 999;tier c 3 by 2 high 4;");
        DUE.is("about(0)", x.about(0), 3);
        DUE.is("about(1)", x.about(1), 4);
        DUE.is("about(2)", x.about(2), 3);
        DUE.is("about(4)", x.about(4), 999);
        DUE.is("about(11)", x.about(11), 0);
        DUE.is("piece(0, 5)", x.piece(0, 5), 72);
        DUE.is("piece(1, 3)", x.piece(1, 3), 8);
        DUE.is("piece(1, 4)", x.piece(1, 4), 1);
        DUE.is("piece(2, 5)", x.piece(2, 5), 24);
        DUE.is("guest(0, 0)", x.guest(0, 0), 0);
        DUE.is("guest(0, 1)", x.guest(0, 1), 0);
        DUE.is("guest(0, 2)", x.guest(0, 2), 100);
        DUE.is("guest(1, 0)", x.guest(1, 0), 999);
        DUE.is("guest(1, 1)", x.guest(1, 1), 9);
        DUE.is("guest(1, 2)", x.guest(1, 2), 0);
        DUE.is("guest(2, 0)", x.guest(2, 0), 7);
        DUE.is("guest(2, 2)", x.guest(2, 2), 100);
        DUE.is("guest(3, 1)", x.guest(3, 1), 0);
        DUE.is("guest(3, 2)", x.guest(3, 2), 33);
        DUE.is("worth is area", x.worth(1, 2), 24);
        DUE.is("slip is 0", x.slip(0, 1, 1), 0);
        x.cut(0, 1, 1);
        DUE.is("pace is 1", x.about(3), 1);
        DUE.is("nothing breaks", x.about(5), 0);
    }

    private static void staysOrGoes() {
        ThreeTiers x = Due.cake("tier a 4 by 4 high 1;guest g wants 1;worth 5;draw 7;pace 3;");
        x.cut(0, 0, 1);
        x.cut(1, 0, 1);
        x.undo();
        x.give(0, 0);
        for (int box = 0; box < 3; box++) {
            x.image(box);
        }
        x.sized(4, true);
        x.later(9);
        x.picks();
        String before = Due.table(x);
        DUE.is("faulty cake()", Due.tell(x, "tier b 1 by 1 high 1;guest h wants 2;worth 9;draw 8;pace 4;#"), -1);
        DUE.is("table stays", before.equals(Due.table(x)), true);
        DUE.is("acts stay", x.about(6), 2);
        DUE.is("seen stays", x.about(8), 1);
        DUE.is("what lies stays", x.about(12), 1);
        DUE.is("units stay", x.about(11), 1);
        DUE.is("worth stays", x.worth(0, 1), 5);
        DUE.is("restore(2)", x.restore(2), 2);
        x.cut(1, 1, 1);
        x.back(0);
        x.undo();
        DUE.is("cake()", Due.tell(x, "tier b 2 by 1 high 1;guest h wants 2;guest i wants 3;"), 1);
        DUE.is("fault(0)", x.fault(0), 0);
        DUE.is("fault(1)", x.fault(1), -1);
        DUE.is("worth is new", x.worth(0, 0), 2);
        DUE.is("no plates", x.guest(0, 3), -1);
        DUE.is("minute 0", x.about(3), 0);
        DUE.is("seed 0", x.about(4), 0);
        DUE.is("no acts", x.about(6) + x.about(7), 0);
        DUE.is("undo()", x.undo(), false);
        DUE.is("redo()", x.redo(), false);
        DUE.is("nothing seen", x.about(8), 0);
        DUE.is("the time stays", x.about(9), 9);
        DUE.is("nothing lies", x.about(12), 0);
        DUE.is("lies(0)", x.lies(0), -2);
        for (int box = 0; box < 3; box++) {
            DUE.is("boxes are empty", x.restore(box), -1);
        }
        DUE.is("pace 1", x.cut(0, 0, 1) + x.about(3), 2);
        toldAgain();
    }

    /** Nothing of a cake told before is left in the next one. */
    private static void toldAgain() {
        String text = "tier a 4 by 4 high 1;guest g wants 1 sweet 9 comes 9;worth 5;slip 100+1;draw 7;pace 3;";
        ThreeTiers x = Due.cake(text);
        x.cut(0, 0, 1);
        x.cut(1, 1, 1);
        x.cut(2, 0, 1);
        DUE.is("broken", x.about(5), 14);
        DUE.is("the same again", Due.tell(x, text), 1);
        DUE.is("units", x.about(11), 3);
        DUE.is("a faulty one", Due.tell(x, text + "pace 3;"), -1);
        DUE.is("fault(1)", x.fault(1), text.length());
        DUE.is("three tiers", Due.tell(x, "tier a 4 by 4 high 1;tier b 3 by 3 high 1;tier c 2 by 2 high 1;guest g wants 1;"), 3);
        DUE.is("broken", x.about(5), 0);
        for (int piece = 0; piece < 3; piece++) {
            DUE.is("column and row", x.piece(piece, 1) + x.piece(piece, 2), 0);
            DUE.is("columns", x.piece(piece, 3), 4 - piece);
            DUE.is("slip", x.slip(piece, 0, 1), 0);
        }
        DUE.is("sweet", x.guest(0, 1), 0);
        DUE.is("comes", x.guest(0, 2), 100);
        DUE.is("units", x.about(11), 0);
        DUE.is("none at all", x.cake(), 0);
        DUE.is("no guests", x.about(1), 0);
    }

    private static void faultAt(String text, int kind, int place) {
        ThreeTiers x = new ThreeTiers();
        DUE.is("cake of " + text, Due.tell(x, text), kind == 0 ? x.about(0) : -1);
        DUE.is("fault(0) of " + text, x.fault(0), kind);
        DUE.is("fault(1) of " + text, x.fault(1), place);
    }

    private static void tokens() {
        faultAt("", 0, -1);
        faultAt(" \n ", 0, -1);
        faultAt("tier abcdefgh 1 by 1 high 1;", 0, -1);
        faultAt("tier zebra 1 by 1 high 1;", 0, -1);
        faultAt("tier `a 1 by 1 high 1;", 1, 5);
        faultAt("tier a{ 1 by 1 high 1;", 1, 6);
        faultAt("tier abcdefghi 1 by 1 high 1;", 1, 5);
        faultAt("tiertiers", 1, 0);
        faultAt("guest a wants 0123;", 0, -1);
        faultAt("guest a wants 00123;", 1, 14);
        faultAt("tier a 1by 1 high 1;", 1, 7);
        faultAt("tier a1 by 1 high 1;", 0, -1);
        faultAt("tier a1by 1 high 1;", 1, 6);
        faultAt("tier\na\n1\nby\n1\nhigh\n1\n;\n", 0, -1);
        faultAt("tier a\t1 by 1 high 1;", 1, 6);
        faultAt("Tier a 1 by 1 high 1;", 1, 0);
        faultAt("pace 1,", 1, 6);
        faultAt("pace 1.", 1, 6);
        faultAt("pace 1;\0", 1, 7);
        faultAt("pace 1;" + (char) 225, 1, 7);
        faultAt("pace 1: ", 1, 6);
        faultAt("worth 1!2;", 1, 7);
        faultAt("worth area+icing-sweet*broken/long%minute<1 and(2>3)or not 4=5;", 0, -1);
        faultAt("pace 61 $", 4, 5);
        faultAt("pace pace $", 2, 5);
    }

    private static void places() {
        faultAt("tier", 2, 4);
        faultAt("tier  \n ", 2, 8);
        faultAt("tier 5", 2, 5);
        faultAt("tier a by", 2, 7);
        faultAt("tier a 1 1", 2, 9);
        faultAt("tier a 1 by by", 2, 12);
        faultAt("tier a 1 by 1 wide", 2, 14);
        faultAt("tier a 1 by 1 high ;", 2, 19);
        faultAt("tier a 1 by 1 high 1", 2, 20);
        faultAt("tier a 1 by 1 high 1 tier", 2, 21);
        faultAt(";", 2, 0);
        faultAt("pace 1;;", 2, 7);
        faultAt("7", 2, 0);
        faultAt("area", 2, 0);
        faultAt("guest g 5", 2, 8);
        faultAt("guest g wants sweet", 2, 14);
        faultAt("guest g wants 5 sweet ;", 2, 22);
        faultAt("guest g wants 5 sweet 5 sweet", 2, 24);
        faultAt("guest g wants 5 comes 5 comes", 2, 24);
        faultAt("guest g wants 5 wants", 2, 16);
        faultAt("pace", 2, 4);
        faultAt("draw;", 2, 4);
        faultAt("worth;", 2, 5);
        faultAt("worth 1", 2, 7);
        faultAt("worth (1", 2, 8);
        faultAt("worth (1;", 2, 8);
        faultAt("worth 1);", 2, 7);
        faultAt("worth ();", 2, 7);
        faultAt("worth 1 2;", 2, 8);
        faultAt("worth 1+;", 2, 8);
        faultAt("worth +1;", 2, 6);
        faultAt("worth -1;", 2, 6);
        faultAt("worth 1+not 1;", 2, 8);
        faultAt("worth 1<not 1;", 2, 8);
        faultAt("worth not;", 2, 9);
        faultAt("worth 1 and;", 2, 11);
        faultAt("worth 1 or or 1;", 2, 11);
        faultAt("worth 1 and not 1;", 0, -1);
        faultAt("worth cells;", 2, 6);
        faultAt("worth (1<2)<3;", 0, -1);
        faultAt("worth 1=2=3;", 2, 9);
        faultAt("worth 1<2>3;", 2, 9);
    }

    private static void names() {
        String[] words = {"tier", "by", "high", "guest", "wants", "sweet", "comes", "worth", "slip", "pace", "draw",
            "or", "and", "not", "area", "icing", "broken", "long", "minute"};
        for (String word : words) {
            faultAt("tier " + word + " 1 by 1 high 1;", 2, 5);
            faultAt("guest " + word + " wants 1;", 2, 6);
        }
        String[] free = {"cake", "line", "e", "both", "one", "sum", "term", "unit", "name", "n", "tiers", "tie", "b"};
        for (String word : free) {
            faultAt("tier " + word + " 1 by 1 high 1;guest " + word + " wants 1;", 0, -1);
        }
        faultAt("tier a 1 by 1 high 1;guest a wants 1;tier aa 1 by 1 high 1;guest aa wants 1;", 0, -1);
        faultAt("guest a wants 1;guest b wants 1;guest b wants 1;", 3, 38);
        faultAt("tier a 1 by 1 high 1;tier b 1 by 1 high 1;tier a", 3, 47);
        faultAt("tier a 1 by 1 high 1;tier a$", 3, 26);
    }

    private static void numbers() {
        faultAt("tier a 8 by 8 high 9;", 0, -1);
        faultAt("tier a 1 by 0 high 9;", 4, 12);
        faultAt("tier a 9 by 0 high 9;", 4, 7);
        faultAt("guest a wants 999 sweet 9 comes 100;", 0, -1);
        faultAt("guest a wants 9999;", 4, 14);
        faultAt("guest a wants 1000;", 4, 14);
        faultAt("guest a wants 1 sweet 10;", 4, 22);
        faultAt("guest a wants 1 comes 101;", 4, 22);
        faultAt("pace 61;", 4, 5);
        faultAt("draw 1000;", 4, 5);
        faultAt("tier a 1 by 9 high 10;", 4, 12);
        faultAt("tier a 1 by 8 high 10;", 4, 19);
        faultAt("tier a 1 by 8 high 0;", 4, 19);
        faultAt("guest a wants 0 sweet 0 comes 0;", 0, -1);
        faultAt("pace 0;draw 0;", 0, -1);
        faultAt("pace 60;draw 999;", 0, -1);
        faultAt("worth 9999;", 0, -1);
        faultAt("worth 99999;", 1, 6);
    }

    private static void tooMany() {
        String tiers = "tier a 1 by 1 high 1;tier b 1 by 1 high 1;tier c 1 by 1 high 1;";
        faultAt(tiers, 0, -1);
        faultAt(tiers + " tier a", 2, tiers.length() + 1);
        StringBuilder guests = new StringBuilder();
        for (char name = 'a'; name <= 'f'; name++) {
            guests.append("guest ").append(name).append(" wants 1;");
        }
        faultAt(guests.toString(), 0, -1);
        faultAt(guests + "guest g wants 1;", 2, guests.length());
        faultAt("slip 1;slip 1;", 2, 7);
        faultAt("draw 1;draw 1;", 2, 7);
        faultAt("pace 1;pace 1;", 2, 7);
        faultAt("worth 1;worth 1;", 2, 8);
        faultAt("slip 1;worth 1;pace 1;draw 1;worth", 2, 29);
    }

    private static String times(String part, int n) {
        return part.repeat(n);
    }

    private static void formulas() {
        String thirty = "1" + times("+1", 29);
        faultAt("worth " + thirty + ";slip " + thirty + ";", 0, -1);
        ThreeTiers x = Due.cake("worth " + thirty + ";slip " + thirty + ";");
        DUE.is("about(11)", x.about(11), 60);
        faultAt("worth " + thirty + "+1;", 2, 66);
        faultAt("slip 1;worth " + thirty + "+icing;", 2, 73);
        // A unit ( e ) is a unit itself, and so are those in it.
        DUE.is("units of ((1)+2)", Due.cake("worth ((1)+2);").about(11), 4);
        faultAt("worth " + times("(1)+", 14) + "(1);", 0, -1);
        faultAt("worth " + times("(1)+", 14) + "1+(1);", 2, 6 + 56 + 3);
        faultAt("worth " + times("(1)+", 15) + "(1);", 2, 6 + 60);
        faultAt("worth " + times("(", 7) + "1" + times(")", 7) + ";", 0, -1);
        faultAt("worth " + times("(", 8) + "1" + times(")", 8) + ";", 2, 13);
        faultAt("worth " + times("not ", 7) + "1;", 0, -1);
        faultAt("worth " + times("not ", 8) + "1;", 2, 34);
        faultAt("worth " + times("not (", 3) + "not 1" + ")));", 0, -1);
        faultAt("worth " + times("not (", 3) + "not (1" + "))));", 2, 25);
        faultAt("worth " + times("not (", 3) + "not not 1" + ")));", 2, 25);
        faultAt("worth " + times("(", 7) + "not 1" + times(")", 7) + ";", 2, 13);
        faultAt("worth " + times("(", 7) + "1+2*3" + times(")", 7) + "+((1));", 0, -1);
    }
}
